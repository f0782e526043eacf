/-! ===== works of the class: steps ===== -/
abbrev Spt : Type := Nat × Nat × Nat
def zl6 (f : Nat) : Nat := zget [112, 99, 107, 118, 104, 100] f
def stT (t : Nat) : Spt := if t = 0 then (33, 0, 0) else if t = 1 then (38, 0, 0) else if t = 2 then (124, 0, 0) else (60 + (t - 10) / 100 % 10, zl6 ((t - 10) / 1000), (t - 10) % 100)
def stC (c : Nat × Nat × List Nat) : List Spt := if c.1 < 2 then c.2.2.map stT ++ [((if c.1 = 0 then 103 else 115), 0, c.2.1)] else []
def stW : Wk → List Spt
  | [] => []
  | c :: w => stC c ++ stW w
def xWs (o : Nat) (ss : List Spt) (r cap : Nat) (K N : Nat → Nat) (R : Nat → Nat → Option Nat) (I : Nat → Nat → Int32) : Prop := 1000 ≤ o ∧ K o = 12 ∧ I o 3 = nI ss.length ∧ I o 4 = nI r ∧ ss.length ≤ cap ∧ cap ≤ 100 ∧ ∃ a b c, (1000 ≤ a ∧ K a = 22 ∧ N a = cap ∧ R o 0 = some a) ∧ (1000 ≤ b ∧ K b = 22 ∧ N b = cap ∧ R o 1 = some b) ∧ (1000 ≤ c ∧ K c = 22 ∧ N c = cap ∧ R o 2 = some c) ∧ (a ≠ b ∧ a ≠ c ∧ b ≠ c) ∧
  ∀ j, j < ss.length → I a j = nI (ss.getD j (0, 0, 0)).1 ∧ I b j = nI (ss.getD j (0, 0, 0)).2.1 ∧ I c j = nI (ss.getD j (0, 0, 0)).2.2
def xH (b : Nat) (w : Wk) (K N : Nat → Nat) (R : Nat → Nat → Option Nat) (I : Nat → Nat → Int32) : Prop := (R b 7 = none ∧ w = []) ∨ ∃ o cap, R b 7 = some o ∧ xWs o (stW w) (rdS w) cap K N R I
/-- clauses that are well made -/
def wok (w : Wk) : Prop := w.length ≤ 10 ∧ ∀ c ∈ w, c.1 ≤ 2 ∧ c.2.1 ≤ 99 ∧ wkok c
theorem wkd_mem {w : Wk} {c : Nat} (hc : c < w.length) : wkd w c ∈ w := by
  unfold wkd
  rw [List.getD_eq_getElem?_getD, List.getElem?_eq_getElem hc]
  exact List.getElem_mem hc
theorem rdN_wok {w : Wk} (h : wok w) : ∀ c, c ≤ w.length → rdN w c ≤ 99
  | 0, _ => Nat.zero_le _
  | c + 1, hc => by
    unfold rdN
    split
    · exact (h.2 _ (wkd_mem (by omega))).2.1
    · exact rdN_wok h c (by omega)
def soB (s x n : Nat) : Bool := if s = 0 then decide (x < n) else if s = 1 then decide (x = n) else decide (n < x)
theorem tst_so (g : Gv) (p c t : Nat) : tst g p c t = soB (t / 100 % 10) (fx g p c (t / 1000)) (t % 100) := rfl
theorem c_W_isSo (E : zE) (σ : Sg) {s x n : Nat} (hs : s ≤ 2) (hx : x < 1000) (hn : n < 1000) : zCt E mX10_isSo 0 0 0 σ [.int (nI x), .int (nI (60 + s)), .int (nI n)] (fun r σ' => σ' = σ ∧ ((soB s x n = true ∧ r = some (.int 1)) ∨ (¬ (soB s x n = true) ∧ r = some (.int 0)))) := by
  have hs3 : s = 0 ∨ s = 1 ∨ s = 2 := by omega
  refine z_intro (by decide) (Nat.le_of_ble_eq_true rfl) (fun X hX => ?_)
  refine bk hX lkX10_ok (pc' := 1) [.iload_n 1] (by decide +kernel) (And.intro trivial ?_)
  rcases hs3 with rfl | rfl | rfl
  · refine z_lsw hX 28 (dflt := 49) (ps := #[(60, 27), (61, 38)]) (len := 27) (off := 27) (by decide +kernel) (by decide) (by decide) (by decide) ?_
    refine bk hX lkX10_ok (pc' := 30) [.iload_n 0, .iload_n 2] (by decide +kernel) (And.intro trivial ?_)
    refine ic_ge hX (7) 37 (by decide +kernel) (by decide) (fun cq => ?_) (fun cq => ?_)
    · refine bk hX lkX10_ok (pc' := 38) [.iconst 0] (by decide +kernel) (And.intro trivial ?_)
      exact z_iret hX (by decide +kernel) rfl (rfl) (by decide) (by decide) (by first | exact ⟨rfl, Or.inr ⟨fun z => absurd (of_decide_eq_true z) (Nat.not_lt.mpr ((nI_leI (by omega) (by omega)).mp cq)), rfl⟩⟩ | exact ⟨rfl, Or.inl ⟨decide_eq_true (Nat.lt_of_not_le (fun z => cq ((nI_leI (by omega) (by omega)).mpr z))), rfl⟩⟩)
    · refine bk hX lkX10_ok (pc' := 34) [.iconst 1] (by decide +kernel) (And.intro trivial ?_)
      refine gt_ hX (4) 38 (by decide +kernel) (by decide) ?_
      exact z_iret hX (by decide +kernel) rfl (rfl) (by decide) (by decide) (by first | exact ⟨rfl, Or.inr ⟨fun z => absurd (of_decide_eq_true z) (Nat.not_lt.mpr ((nI_leI (by omega) (by omega)).mp cq)), rfl⟩⟩ | exact ⟨rfl, Or.inl ⟨decide_eq_true (Nat.lt_of_not_le (fun z => cq ((nI_leI (by omega) (by omega)).mpr z))), rfl⟩⟩)
  · refine z_lsw hX 39 (dflt := 49) (ps := #[(60, 27), (61, 38)]) (len := 27) (off := 38) (by decide +kernel) (by decide) (by decide) (by decide) ?_
    refine bk hX lkX10_ok (pc' := 41) [.iload_n 0, .iload_n 2] (by decide +kernel) (And.intro trivial ?_)
    refine ic_ne hX (7) 48 (by decide +kernel) (by decide) (fun cq => ?_) (fun cq => ?_)
    · refine bk hX lkX10_ok (pc' := 49) [.iconst 0] (by decide +kernel) (And.intro trivial ?_)
      exact z_iret hX (by decide +kernel) rfl (rfl) (by decide) (by decide) (by first | exact ⟨rfl, Or.inl ⟨decide_eq_true (nI_inj (by omega) (by omega) cq), rfl⟩⟩ | exact ⟨rfl, Or.inr ⟨fun z => cq (by rw [show x = n from of_decide_eq_true z]), rfl⟩⟩)
    · refine bk hX lkX10_ok (pc' := 45) [.iconst 1] (by decide +kernel) (And.intro trivial ?_)
      refine gt_ hX (4) 49 (by decide +kernel) (by decide) ?_
      exact z_iret hX (by decide +kernel) rfl (rfl) (by decide) (by decide) (by first | exact ⟨rfl, Or.inl ⟨decide_eq_true (nI_inj (by omega) (by omega) cq), rfl⟩⟩ | exact ⟨rfl, Or.inr ⟨fun z => cq (by rw [show x = n from of_decide_eq_true z]), rfl⟩⟩)
  · refine z_lsw hX 50 (dflt := 49) (ps := #[(60, 27), (61, 38)]) (len := 27) (off := 49) (by decide +kernel) (by decide) (by decide) (by decide) ?_
    refine bk hX lkX10_ok (pc' := 52) [.iload_n 0, .iload_n 2] (by decide +kernel) (And.intro trivial ?_)
    refine ic_le hX (7) 59 (by decide +kernel) (by decide) (fun cq => ?_) (fun cq => ?_)
    · refine bk hX lkX10_ok (pc' := 60) [.iconst 0] (by decide +kernel) (And.intro trivial ?_)
      exact z_iret hX (by decide +kernel) rfl (rfl) (by decide) (by decide) (by first | exact ⟨rfl, Or.inr ⟨fun z => absurd (of_decide_eq_true z) (Nat.not_lt.mpr ((nI_leI (by omega) (by omega)).mp cq)), rfl⟩⟩ | exact ⟨rfl, Or.inl ⟨decide_eq_true (Nat.lt_of_not_le (fun z => cq ((nI_leI (by omega) (by omega)).mpr z))), rfl⟩⟩)
    · refine bk hX lkX10_ok (pc' := 56) [.iconst 1] (by decide +kernel) (And.intro trivial ?_)
      refine gt_ hX (4) 60 (by decide +kernel) (by decide) ?_
      exact z_iret hX (by decide +kernel) rfl (rfl) (by decide) (by decide) (by first | exact ⟨rfl, Or.inr ⟨fun z => absurd (of_decide_eq_true z) (Nat.not_lt.mpr ((nI_leI (by omega) (by omega)).mp cq)), rfl⟩⟩ | exact ⟨rfl, Or.inl ⟨decide_eq_true (Nat.lt_of_not_le (fun z => cq ((nI_leI (by omega) (by omega)).mpr z))), rfl⟩⟩)
theorem c_W_valueOf (E : zE) (K N : Nat → Nat) (Rf : Nat → Nat → Option Nat) (I : Nat → Nat → Int32) (L : Nat → Nat → Int64) {g : Gv} {p c h f : Nat} (hh : xHd K I h (gk g p) p (gv g p)) (hk6 : gk g p ≤ 6) (hf : f ≤ 5) : zCt E mX10_valueOf 1 0 0 (sg K N Rf I L) [.int (nI (zl6 f)), .ref h, .int (nI c), .int (nI (pcN (gh g c) 10)), .int (nI (gd g % 10))] (fun r σ' => σ' = (sg K N Rf I L) ∧ r = some (.int (nI (fx g p c f)))) := by
  obtain ⟨h1, h2, h3, h4⟩ := hh
  have hks : (sg K N Rf I L).1 h = hci (gk g p) + 1 := by rw [← h2]; exact kF_hi K h1
  have hf6 : f = 0 ∨ f = 1 ∨ f = 2 ∨ f = 3 ∨ f = 4 ∨ f = 5 := by omega
  refine z_intro (by decide) (Nat.le_of_ble_eq_true rfl) (fun X hX => ?_)
  refine bk hX lkX10_ok (pc' := 1) [.iload_n 0] (by decide +kernel) (And.intro trivial ?_)
  rcases hf6 with rfl | rfl | rfl | rfl | rfl | rfl
  · refine z_lsw hX 52 (dflt := 70) (ps := #[(99, 56), (104, 68), (107, 58), (112, 51), (118, 63)]) (len := 51) (off := 51) (by decide +kernel) (by decide) (by decide) (by decide) ?_
    refine bk hX lkX10_ok (pc' := 53) [.aload_n 1] (by decide +kernel) (And.intro trivial ?_)
    refine z_gIe hX (fh_X10_31 (gk g p) hk6) (hks) (by decide +kernel) ?_
    exact z_iret hX (by decide +kernel) rfl (rfl) (by decide) (by decide) (⟨rfl, congrArg some (congrArg Value.int h3)⟩)
  · refine z_lsw hX 57 (dflt := 70) (ps := #[(99, 56), (104, 68), (107, 58), (112, 51), (118, 63)]) (len := 51) (off := 56) (by decide +kernel) (by decide) (by decide) (by decide) ?_
    refine bk hX lkX10_ok (pc' := 58) [.iload_n 2] (by decide +kernel) (And.intro trivial ?_)
    exact z_iret hX (by decide +kernel) rfl (rfl) (by decide) (by decide) (⟨rfl, rfl⟩)
  · refine z_lsw hX 59 (dflt := 70) (ps := #[(99, 56), (104, 68), (107, 58), (112, 51), (118, 63)]) (len := 51) (off := 58) (by decide +kernel) (by decide) (by decide) (by decide) ?_
    refine bk hX lkX10_ok (pc' := 60) [.aload_n 1] (by decide +kernel) (And.intro trivial ?_)
    refine vc_kind_X10 hX rfl hk6 hks (by decide +kernel) (by decide) (by decide) (by decide) (Nat.le_of_ble_eq_true rfl) ?_
    exact z_iret hX (by decide +kernel) rfl (rfl) (by decide) (by decide) (⟨rfl, rfl⟩)
  · refine z_lsw hX 64 (dflt := 70) (ps := #[(99, 56), (104, 68), (107, 58), (112, 51), (118, 63)]) (len := 51) (off := 63) (by decide +kernel) (by decide) (by decide) (by decide) ?_
    refine bk hX lkX10_ok (pc' := 65) [.aload_n 1] (by decide +kernel) (And.intro trivial ?_)
    refine z_gIe hX (fh_X10_40 (gk g p) hk6) (hks) (by decide +kernel) ?_
    exact z_iret hX (by decide +kernel) rfl (rfl) (by decide) (by decide) (⟨rfl, congrArg some (congrArg Value.int h4)⟩)
  · refine z_lsw hX 69 (dflt := 70) (ps := #[(99, 56), (104, 68), (107, 58), (112, 51), (118, 63)]) (len := 51) (off := 68) (by decide +kernel) (by decide) (by decide) (by decide) ?_
    refine bk hX lkX10_ok (pc' := 70) [.iload_n 3] (by decide +kernel) (And.intro trivial ?_)
    exact z_iret hX (by decide +kernel) rfl (rfl) (by decide) (by decide) (⟨rfl, rfl⟩)
  · refine z_lsw hX 71 (dflt := 70) (ps := #[(99, 56), (104, 68), (107, 58), (112, 51), (118, 63)]) (len := 51) (off := 70) (by decide +kernel) (by decide) (by decide) (by decide) ?_
    refine bk hX lkX10_ok (pc' := 73) [.iload 4] (by decide +kernel) (And.intro trivial ?_)
    exact z_iret hX (by decide +kernel) rfl (rfl) (by decide) (by decide) (⟨rfl, rfl⟩)
theorem stW_app (w1 w2 : Wk) : stW (w1 ++ w2) = stW w1 ++ stW w2 := by
  induction w1 with
  | nil => rfl
  | cons c w1 ih => show stC c ++ stW (w1 ++ w2) = (stC c ++ stW w1) ++ stW w2; rw [ih, List.append_assoc]
theorem getD_app {α : Type} (l1 l2 : List α) (x d : α) : (l1 ++ x :: l2).getD l1.length d = x := by simp
theorem evS_len (g : Gv) (p c : Nat) : ∀ ts st n, shp ts st.length = some n → (evS g p c ts st).length = n
  | [], st, n, h => by cases h; rfl
  | t :: r, st, n, h => by
    rw [shp_s] at h
    unfold evS
    by_cases t0 : t = 0
    · rw [if_pos t0] at h ⊢
      match st, h with
      | [], h => cases h
      | b :: s, h => exact evS_len g p c r _ n (by rw [if_pos (show 1 ≤ (b :: s).length from Nat.succ_le_succ (Nat.zero_le _))] at h; exact h)
    · rw [if_neg t0] at h ⊢
      by_cases t1 : t = 1
      · rw [if_pos (Or.inl t1)] at h
        rw [if_pos t1]
        match st, h with
        | [], h => cases h
        | [b], h => cases h
        | b :: x :: s, h => exact evS_len g p c r _ n (by rw [if_pos (show 2 ≤ (b :: x :: s).length from Nat.succ_le_succ (Nat.succ_le_succ (Nat.zero_le _)))] at h; exact h)
      · rw [if_neg t1]
        by_cases t2 : t = 2
        · rw [if_pos (Or.inr t2)] at h
          rw [if_pos t2]
          match st, h with
          | [], h => cases h
          | [b], h => cases h
          | b :: x :: s, h => exact evS_len g p c r _ n (by rw [if_pos (show 2 ≤ (b :: x :: s).length from Nat.succ_le_succ (Nat.succ_le_succ (Nat.zero_le _)))] at h; exact h)
        · rw [if_neg (fun z => z.elim t1 t2)] at h
          rw [if_neg t2]
          exact evS_len g p c r _ n h
/-- what the clauses add, from the first on -/
def clF (g : Gv) (p c : Nat) : Wk → Int32 → Int32
  | [], m => m
  | q :: w, m => clF g p c w (m + (if q.1 < 2 ∧ evE g p c q.2.2 = true then (if q.1 = 0 then nI q.2.1 else -nI q.2.1) else 0))
theorem clF_app (g : Gv) (p c : Nat) : ∀ (w1 w2 : Wk) (m : Int32), clF g p c (w1 ++ w2) m = clF g p c w2 (clF g p c w1 m)
  | [], _, _ => rfl
  | q :: w1, w2, m => clF_app g p c w1 w2 _
theorem clF_N (g : Gv) (p c : Nat) (w : Wk) : ∀ k, k ≤ w.length → clF g p c (w.take k) 0 = clN g w p c k
  | 0, _ => by simp [clF, clN]
  | k + 1, h => by
    have e : w.take (k + 1) = w.take k ++ [wkd w k] := by
      rw [List.take_add_one]
      congr 1
      unfold wkd
      rw [List.getD_eq_getElem?_getD, List.getElem?_eq_getElem (show k < w.length by omega)]
      rfl
    rw [e, clF_app, clF_N g p c w k (by omega)]
    rfl
set_option maxHeartbeats 4000000 in
theorem c_W_moodOf (E : zE) (K N : Nat → Nat) (Rf : Nat → Nat → Option Nat) (I : Nat → Nat → Int32) (L : Nat → Nat → Int64) {g : Gv} (hg : gwf g) {w : Wk} (hw : wok w) {p c h o r cap : Nat} (hp : p < gn g) (hc : c < gn g) (hh : xHd K I h (gk g p) p (gv g p)) (hW : xWs o (stW w) r cap K N Rf I) : zCt E mX10_moodOf 2 0 0 (sg K N Rf I L) [.ref o, .ref h, .int (nI c), .int (nI (pcN (gh g c) 10)), .int (nI (gd g % 10))] (fun r σ' => σ' = (sg K N Rf I L) ∧ r = some (.int (clN g w p c w.length))) := by
  obtain ⟨h1, h2, h3, -, h5, h6, va, vb, vc, ⟨a1, a2, a3, a4⟩, ⟨b1, b2, b3, b4⟩, ⟨c1, c2, c3, c4⟩, -, hs⟩ := hW
  have hk6 : gk g p ≤ 6 := (hg.2.1 p hp).1
  generalize hss : stW w = ss at h3 h5 hs
  have kso : (sg K N Rf I L).1 o = 11 + 1 := by rw [show (sg K N Rf I L).1 o = K o from kF_hi K h1]; exact h2
  have ka : (sg K N Rf I L).1 va = 22 := by rw [show (sg K N Rf I L).1 va = K va from kF_hi K a1]; exact a2
  have kb : (sg K N Rf I L).1 vb = 22 := by rw [show (sg K N Rf I L).1 vb = K vb from kF_hi K b1]; exact b2
  have kc : (sg K N Rf I L).1 vc = 22 := by rw [show (sg K N Rf I L).1 vc = K vc from kF_hi K c1]; exact c2
  have hra : (sg K N Rf I L).2.2.2.2 o 0 = some va := by rw [show (sg K N Rf I L).2.2.2.2 o 0 = Rf o 0 from rF_hi Rf h1 0]; exact a4
  have hrb : (sg K N Rf I L).2.2.2.2 o 1 = some vb := by rw [show (sg K N Rf I L).2.2.2.2 o 1 = Rf o 1 from rF_hi Rf h1 1]; exact b4
  have hrc : (sg K N Rf I L).2.2.2.2 o 2 = some vc := by rw [show (sg K N Rf I L).2.2.2.2 o 2 = Rf o 2 from rF_hi Rf h1 2]; exact c4
  have na : ∀ i, i < ss.length → vp_in (nI i) ((sg K N Rf I L).2.1 va) := fun i hi => by rw [show (sg K N Rf I L).2.1 va = N va from nF_hi N a1, a3]; exact vp_in_nI (by omega) (by omega)
  have nb : ∀ i, i < ss.length → vp_in (nI i) ((sg K N Rf I L).2.1 vb) := fun i hi => by rw [show (sg K N Rf I L).2.1 vb = N vb from nF_hi N b1, b3]; exact vp_in_nI (by omega) (by omega)
  have nc : ∀ i, i < ss.length → vp_in (nI i) ((sg K N Rf I L).2.1 vc) := fun i hi => by rw [show (sg K N Rf I L).2.1 vc = N vc from nF_hi N c1, c3]; exact vp_in_nI (by omega) (by omega)
  have eA : ∀ l1 x l2, ss = l1 ++ x :: l2 → (sg K N Rf I L).2.2.1 va l1.length = nI x.1 ∧ (sg K N Rf I L).2.2.1 vb l1.length = nI x.2.1 ∧ (sg K N Rf I L).2.2.1 vc l1.length = nI x.2.2 := fun l1 x l2 e => by
    have := hs l1.length (by rw [e]; simp)
    rw [e, getD_app] at this
    exact this
  refine z_intro (by decide) (Nat.le_of_ble_eq_true rfl) (fun X hX => ?_)
  -- a sign
  have ht : ∀ (ts : List Nat) (l1 l2 : List Spt) (st : List Bool) (m : Int32) (n : Nat), ss = l1 ++ (ts.map stT ++ l2) → ts.all tkok = true → shp ts st.length = some n → st.length + tn ts ≤ 26 → zS X (sg K N Rf I L) 0 0 9 [(0, .ref o), (1, .ref h), (2, .int (nI c)), (3, .int (nI (pcN (gh g c) 10))), (4, .int (nI (gd g % 10))), (5, .int m), (6, .int (nI (enc (evS g p c ts st)))), (7, .int (nI (l1.length + ts.length)))] [] → zS X (sg K N Rf I L) 0 0 9 [(0, .ref o), (1, .ref h), (2, .int (nI c)), (3, .int (nI (pcN (gh g c) 10))), (4, .int (nI (gd g % 10))), (5, .int m), (6, .int (nI (enc st))), (7, .int (nI l1.length))] [] := by
    intro ts
    induction ts with
    | nil =>
      intro l1 l2 st m n hl ht hsp hln kk
      exact kk
    | cons t ts ih =>
      intro l1 l2 st m n hl ht hsp hln kk
      rw [List.all_cons, Bool.and_eq_true] at ht
      obtain ⟨i0, hi0⟩ : ∃ i0, i0 = l1.length := ⟨_, rfl⟩
      have hlen : i0 < ss.length := by rw [hl, hi0]; simp
      obtain ⟨q1, q2, q3⟩ := eA l1 (stT t) (ts.map stT ++ l2) (by rw [hl]; rfl)
      rw [← hi0] at q1 q2 q3 ⊢
      have ci : (nI i0).toNatClampNeg = i0 := cl (by omega)
      have hl' : ss = (l1 ++ [stT t]) ++ (ts.map stT ++ l2) := by rw [hl]; simp
      have el : (l1 ++ [stT t]).length = i0 + 1 := by rw [hi0]; simp
      have ek : (l1.length + (t :: ts).length) = (l1 ++ [stT t]).length + ts.length := by simp; omega
      rw [ek] at kk
      rw [shp_s] at hsp
      have hti : t = 0 ∨ t = 1 ∨ t = 2 ∨ 10 ≤ t := by
        have := ht.1
        unfold tkok at this
        simp at this
        omega
      rcases hti with rfl | rfl | rfl | t10
      · rw [if_pos rfl] at hsp
        match st, hsp, hln, kk with
        | [], hsp, _, _ => cases hsp
        | b :: s, hsp, hln, kk =>
          have hsp : shp ts ((!b) :: s).length = some n := by rw [if_pos (show 1 ≤ (b :: s).length from Nat.succ_le_succ (Nat.zero_le _))] at hsp; exact hsp
          have kk2 := ih (l1 ++ [stT 0]) l2 ((!b) :: s) m n hl' ht.2 hsp hln kk
          rw [el] at kk2
          refine bk hX lkX10_ok (pc' := 12) [.iload 7, .aload_n 0] (by decide +kernel) (And.intro trivial ?_)
          refine z_gI hX lkX10_ok 19 11 3 (fun k h => h) (by decide) (kso) (by decide +kernel) ?_
          rw [show (sg K N Rf I L).2.2.1 o 3 = nI ss.length from h3]
          refine ic_ge hX (206) 221 (by decide +kernel) (by decide) (fun c => absurd c (nI_ge hlen (by omega))) (fun c_15 => ?_)
          refine bk hX lkX10_ok (pc' := 25) [.iload 6, .iconst 1, .iand, .istore 8, .aload_n 0] (by decide +kernel) (And.intro trivial ?_)
          refine z_gR hX lkX10_ok 7 11 0 (fun k h => h) (kso) (hra) (by decide +kernel) ?_
          refine bk hX lkX10_ok (pc' := 30) [.iload 7] (by decide +kernel) (And.intro trivial ?_)
          refine z_iald hX lkX10_ok (ka) (na i0 (by omega)) (by decide +kernel) ?_
          rw [ci, q1]
          · refine z_lsw hX 80 (dflt := 133) (ps := #[(33, 49), (38, 58), (103, 85), (115, 109), (124, 73)]) (len := 49) (off := 49) (by decide +kernel) (by decide) (by decide) (by decide) ?_
            refine bk hX lkX10_ok (pc' := 86) [.iload 6, .iconst 1, .ixor, .istore 6] (by decide +kernel) (And.intro trivial ?_)
            refine gt_ hX (129) 215 (by decide +kernel) (by decide) ?_
            refine bk hX lkX10_ok (pc' := 218) [.iinc 7 1] (by decide +kernel) (And.intro trivial ?_)
            refine gt_ hX (-209) 9 (by decide +kernel) (by decide) ?_
            refine z_lvk (lv' := [(0, _), (1, _), (2, _), (3, _), (4, _), (5, _), (6, _), (7, _)]) [3, 4, 5, 6, 7, 8, 1, 0] rfl ?_
            rw [pt_not, nI_add]
            exact kk2
      · rw [if_neg (by decide), if_pos (Or.inl rfl)] at hsp
        match st, hsp, hln, kk with
        | [], hsp, _, _ => cases hsp
        | [b], hsp, _, _ => cases hsp
        | b :: x :: s, hsp, hln, kk =>
          have hsp : shp ts ((x && b) :: s).length = some n := by rw [if_pos (show 2 ≤ (b :: x :: s).length from Nat.succ_le_succ (Nat.succ_le_succ (Nat.zero_le _)))] at hsp; exact hsp
          have hl3 : s.length + 2 + tn ts ≤ 26 := hln
          have kk2 := ih (l1 ++ [stT 1]) l2 ((x && b) :: s) m n hl' ht.2 hsp (by show s.length + 1 + tn ts ≤ 26; omega) kk
          rw [el] at kk2
          refine bk hX lkX10_ok (pc' := 12) [.iload 7, .aload_n 0] (by decide +kernel) (And.intro trivial ?_)
          refine z_gI hX lkX10_ok 19 11 3 (fun k h => h) (by decide) (kso) (by decide +kernel) ?_
          rw [show (sg K N Rf I L).2.2.1 o 3 = nI ss.length from h3]
          refine ic_ge hX (206) 221 (by decide +kernel) (by decide) (fun c => absurd c (nI_ge hlen (by omega))) (fun c_15 => ?_)
          refine bk hX lkX10_ok (pc' := 25) [.iload 6, .iconst 1, .iand, .istore 8, .aload_n 0] (by decide +kernel) (And.intro trivial ?_)
          refine z_gR hX lkX10_ok 7 11 0 (fun k h => h) (kso) (hra) (by decide +kernel) ?_
          refine bk hX lkX10_ok (pc' := 30) [.iload 7] (by decide +kernel) (And.intro trivial ?_)
          refine z_iald hX lkX10_ok (ka) (na i0 (by omega)) (by decide +kernel) ?_
          rw [ci, q1]
          · refine z_lsw hX 89 (dflt := 133) (ps := #[(33, 49), (38, 58), (103, 85), (115, 109), (124, 73)]) (len := 49) (off := 58) (by decide +kernel) (by decide) (by decide) (by decide) ?_
            refine bk hX lkX10_ok (pc' := 101) [.iload 6, .iconst 1, .ishr, .bipush (Int.negSucc 1), .iload 8, .ior, .iand, .istore 6] (by decide +kernel) (And.intro trivial ?_)
            refine gt_ hX (114) 215 (by decide +kernel) (by decide) ?_
            refine bk hX lkX10_ok (pc' := 218) [.iinc 7 1] (by decide +kernel) (And.intro trivial ?_)
            refine gt_ hX (-209) 9 (by decide +kernel) (by decide) ?_
            refine z_lvk (lv' := [(0, _), (1, _), (2, _), (3, _), (4, _), (5, _), (6, _), (7, _)]) [3, 4, 5, 6, 7, 8, 1, 0] rfl ?_
            rw [pt_top (show (x :: s).length ≤ 29 by show s.length + 1 ≤ 29; omega), pt_shr (show (x :: s).length ≤ 29 by show s.length + 1 ≤ 29; omega), pt_and, nI_add]
            exact kk2
      · rw [if_neg (by decide), if_pos (Or.inr rfl)] at hsp
        match st, hsp, hln, kk with
        | [], hsp, _, _ => cases hsp
        | [b], hsp, _, _ => cases hsp
        | b :: x :: s, hsp, hln, kk =>
          have hsp : shp ts ((x || b) :: s).length = some n := by rw [if_pos (show 2 ≤ (b :: x :: s).length from Nat.succ_le_succ (Nat.succ_le_succ (Nat.zero_le _)))] at hsp; exact hsp
          have hl3 : s.length + 2 + tn ts ≤ 26 := hln
          have kk2 := ih (l1 ++ [stT 2]) l2 ((x || b) :: s) m n hl' ht.2 hsp (by show s.length + 1 + tn ts ≤ 26; omega) kk
          rw [el] at kk2
          refine bk hX lkX10_ok (pc' := 12) [.iload 7, .aload_n 0] (by decide +kernel) (And.intro trivial ?_)
          refine z_gI hX lkX10_ok 19 11 3 (fun k h => h) (by decide) (kso) (by decide +kernel) ?_
          rw [show (sg K N Rf I L).2.2.1 o 3 = nI ss.length from h3]
          refine ic_ge hX (206) 221 (by decide +kernel) (by decide) (fun c => absurd c (nI_ge hlen (by omega))) (fun c_15 => ?_)
          refine bk hX lkX10_ok (pc' := 25) [.iload 6, .iconst 1, .iand, .istore 8, .aload_n 0] (by decide +kernel) (And.intro trivial ?_)
          refine z_gR hX lkX10_ok 7 11 0 (fun k h => h) (kso) (hra) (by decide +kernel) ?_
          refine bk hX lkX10_ok (pc' := 30) [.iload 7] (by decide +kernel) (And.intro trivial ?_)
          refine z_iald hX lkX10_ok (ka) (na i0 (by omega)) (by decide +kernel) ?_
          rw [ci, q1]
          · refine z_lsw hX 104 (dflt := 133) (ps := #[(33, 49), (38, 58), (103, 85), (115, 109), (124, 73)]) (len := 49) (off := 73) (by decide +kernel) (by decide) (by decide) (by decide) ?_
            refine bk hX lkX10_ok (pc' := 113) [.iload 6, .iconst 1, .ishr, .iload 8, .ior, .istore 6] (by decide +kernel) (And.intro trivial ?_)
            refine gt_ hX (102) 215 (by decide +kernel) (by decide) ?_
            refine bk hX lkX10_ok (pc' := 218) [.iinc 7 1] (by decide +kernel) (And.intro trivial ?_)
            refine gt_ hX (-209) 9 (by decide +kernel) (by decide) ?_
            refine z_lvk (lv' := [(0, _), (1, _), (2, _), (3, _), (4, _), (5, _), (6, _), (7, _)]) [3, 4, 5, 6, 7, 8, 1, 0] rfl ?_
            rw [pt_top (show (x :: s).length ≤ 29 by show s.length + 1 ≤ 29; omega), pt_shr (show (x :: s).length ≤ 29 by show s.length + 1 ≤ 29; omega), pt_or, nI_add]
            exact kk2
      · rw [if_neg (by omega), if_neg (by omega)] at hsp
        have hT : stT t = (60 + (t - 10) / 100 % 10, zl6 ((t - 10) / 1000), (t - 10) % 100) := by
          unfold stT
          rw [if_neg (by omega), if_neg (by omega), if_neg (by omega)]
        have hb2 := ht.1
        unfold tkok at hb2
        simp at hb2
        have hs2 : (t - 10) / 100 % 10 ≤ 2 := by omega
        have hf5 : (t - 10) / 1000 ≤ 5 := by omega
        have hn100 : (t - 10) % 100 < 1000 := Nat.lt_of_lt_of_le (Nat.mod_lt _ (by decide)) (by decide)
        rw [hT] at q1 q2 q3
        have htn : tn (t :: ts) = tn ts + 1 := by
          unfold tn
          rw [List.filter_cons_of_pos (by simpa using t10)]
          rfl
        rw [htn] at hln
        have hfx := fx_lt hg hp hc ((t - 10) / 1000)
        have hev : evS g p c (t :: ts) st = evS g p c ts (tst g p c (t - 10) :: st) := by
          show (if t = 0 then _ else if t = 1 then _ else if t = 2 then _ else _) = _
          rw [if_neg (by omega), if_neg (by omega), if_neg (by omega)]
        rw [hev] at kk
        have kk2 := ih (l1 ++ [stT t]) l2 (tst g p c (t - 10) :: st) m n hl' ht.2 hsp (by show st.length + 1 + tn ts ≤ 26; omega) kk
        rw [el] at kk2
        have hsw : Op.lookupswitch.offset [(33, 49), (38, 58), (103, 85), (115, 109), (124, 73)] 133 (nI (60 + (t - 10) / 100 % 10)).toInt = 133 := by
          rcases (show (t - 10) / 100 % 10 = 0 ∨ (t - 10) / 100 % 10 = 1 ∨ (t - 10) / 100 % 10 = 2 by omega) with e | e | e <;> rw [e] <;> decide
        refine bk hX lkX10_ok (pc' := 12) [.iload 7, .aload_n 0] (by decide +kernel) (And.intro trivial ?_)
        refine z_gI hX lkX10_ok 19 11 3 (fun k h => h) (by decide) (kso) (by decide +kernel) ?_
        rw [show (sg K N Rf I L).2.2.1 o 3 = nI ss.length from h3]
        refine ic_ge hX (206) 221 (by decide +kernel) (by decide) (fun c => absurd c (nI_ge hlen (by omega))) (fun c_15 => ?_)
        refine bk hX lkX10_ok (pc' := 25) [.iload 6, .iconst 1, .iand, .istore 8, .aload_n 0] (by decide +kernel) (And.intro trivial ?_)
        refine z_gR hX lkX10_ok 7 11 0 (fun k h => h) (kso) (hra) (by decide +kernel) ?_
        refine bk hX lkX10_ok (pc' := 30) [.iload 7] (by decide +kernel) (And.intro trivial ?_)
        refine z_iald hX lkX10_ok (ka) (na i0 (by omega)) (by decide +kernel) ?_
        rw [ci, q1]
        · refine z_lsw hX 164 (dflt := 133) (ps := #[(33, 49), (38, 58), (103, 85), (115, 109), (124, 73)]) (len := 49) (off := 133) (by decide +kernel) (by decide) (hsw) (by decide) ?_
          refine bk hX lkX10_ok (pc' := 165) [.aload_n 0] (by decide +kernel) (And.intro trivial ?_)
          refine z_gR hX lkX10_ok 13 11 1 (fun k h => h) (kso) (hrb) (by decide +kernel) ?_
          refine bk hX lkX10_ok (pc' := 170) [.iload 7] (by decide +kernel) (And.intro trivial ?_)
          refine z_iald hX lkX10_ok (kb) (nb i0 (by omega)) (by decide +kernel) ?_
          rw [ci, q2]
          refine bk hX lkX10_ok (pc' := 176) [.aload_n 1, .iload_n 2, .iload_n 3, .iload 4] (by decide +kernel) (And.intro trivial ?_)
          refine z_callS hX kw_X10_23 (c_W_valueOf E K N Rf I L (p := p) (c := c) hh hk6 hf5) rfl rfl (by decide +kernel) (by decide) (by decide) (by decide) (by decide) (Nat.le_of_ble_eq_true rfl) ?_
          rintro _ _ ⟨rfl, rfl⟩
          refine bk hX lkX10_ok (pc' := 188) [.istore 9, .iload 6, .iconst 1, .ishl, .iload 9, .aload_n 0] (by decide +kernel) (And.intro trivial ?_)
          refine z_gR hX lkX10_ok 7 11 0 (fun k h => h) (kso) (hra) (by decide +kernel) ?_
          refine bk hX lkX10_ok (pc' := 193) [.iload 7] (by decide +kernel) (And.intro trivial ?_)
          refine z_iald hX lkX10_ok (ka) (na i0 (by omega)) (by decide +kernel) ?_
          refine bk hX lkX10_ok (pc' := 195) [.aload_n 0] (by decide +kernel) (And.intro trivial ?_)
          refine z_gR hX lkX10_ok 16 11 2 (fun k h => h) (kso) (hrc) (by decide +kernel) ?_
          refine bk hX lkX10_ok (pc' := 200) [.iload 7] (by decide +kernel) (And.intro trivial ?_)
          refine z_iald hX lkX10_ok (kc) (nc i0 (by omega)) (by decide +kernel) ?_
          rw [ci, q1, q3]
          refine z_callS hX kw_X10_27 (c_W_isSo E _ hs2 (by omega) hn100) rfl rfl (by decide +kernel) (by decide) (by decide) (by decide) (by decide) (Nat.le_of_ble_eq_true rfl) ?_
          rintro _ _ ⟨rfl, hh⟩
          rcases hh with ⟨hb, rfl⟩ | ⟨hb, rfl⟩
          · refine if_eq hX (7) 211 (by decide +kernel) (by decide) (fun c => absurd c (by decide)) (fun c_204 => ?_)
            refine bk hX lkX10_ok (pc' := 208) [.iconst 1] (by decide +kernel) (And.intro trivial ?_)
            refine gt_ hX (4) 212 (by decide +kernel) (by decide) ?_
            refine bk hX lkX10_ok (pc' := 218) [.ior, .istore 6, .iinc 7 1] (by decide +kernel) (And.intro trivial ?_)
            refine gt_ hX (-209) 9 (by decide +kernel) (by decide) ?_
            refine z_lvk (lv' := [(0, _), (1, _), (2, _), (3, _), (4, _), (5, _), (6, _), (7, _)]) [4, 5, 6, 7, 8, 9, 1, 0] rfl ?_
            rw [nI_add]
            have hz : st.length ≤ 29 := by omega
            first
              | (have hb3 : tst g p c (t - 10) = true := hb
                 rw [hb3] at kk2
                 have hp1 := pt_push true hz
                 rw [show nI (bN true) = nI 1 from rfl] at hp1
                 rw [hp1]
                 exact kk2)
              | (have hb3 : tst g p c (t - 10) = false := Bool.eq_false_iff.mpr hb
                 rw [hb3] at kk2
                 have hp1 := pt_push false hz
                 rw [show nI (bN false) = nI 0 from rfl] at hp1
                 rw [hp1]
                 exact kk2)
          · refine if_eq hX (7) 211 (by decide +kernel) (by decide) (fun c_204 => ?_) (fun c => absurd (by decide) c)
            refine bk hX lkX10_ok (pc' := 218) [.iconst 0, .ior, .istore 6, .iinc 7 1] (by decide +kernel) (And.intro trivial ?_)
            refine gt_ hX (-209) 9 (by decide +kernel) (by decide) ?_
            refine z_lvk (lv' := [(0, _), (1, _), (2, _), (3, _), (4, _), (5, _), (6, _), (7, _)]) [4, 5, 6, 7, 8, 9, 1, 0] rfl ?_
            rw [nI_add]
            have hz : st.length ≤ 29 := by omega
            first
              | (have hb3 : tst g p c (t - 10) = true := hb
                 rw [hb3] at kk2
                 have hp1 := pt_push true hz
                 rw [show nI (bN true) = nI 1 from rfl] at hp1
                 rw [hp1]
                 exact kk2)
              | (have hb3 : tst g p c (t - 10) = false := Bool.eq_false_iff.mpr hb
                 rw [hb3] at kk2
                 have hp1 := pt_push false hz
                 rw [show nI (bN false) = nI 0 from rfl] at hp1
                 rw [hp1]
                 exact kk2)
  -- a clause
  have hl : ∀ (w2 w1 : Wk) (m : Int32), w = w1 ++ w2 → clF g p c w2 m = clN g w p c w.length → zS X (sg K N Rf I L) 0 0 9 [(0, .ref o), (1, .ref h), (2, .int (nI c)), (3, .int (nI (pcN (gh g c) 10))), (4, .int (nI (gd g % 10))), (5, .int m), (6, .int (nI (enc []))), (7, .int (nI (stW w1).length))] [] := by
    intro w2
    induction w2 with
    | nil =>
      intro w1 m he hm
      have e0 : (stW w1).length = ss.length := by rw [← hss, he, List.append_nil]
      have hm : m = clN g w p c w.length := hm
      rw [e0]
      refine bk hX lkX10_ok (pc' := 12) [.iload 7, .aload_n 0] (by decide +kernel) (And.intro trivial ?_)
      refine z_gI hX lkX10_ok 19 11 3 (fun k h => h) (by decide) (kso) (by decide +kernel) ?_
      rw [show (sg K N Rf I L).2.2.1 o 3 = nI ss.length from h3]
      refine ic_ge hX (206) 221 (by decide +kernel) (by decide) (fun c_15 => ?_) (fun c => absurd (nI_le (Nat.le_refl _) (by omega)) c)
      refine bk hX lkX10_ok (pc' := 223) [.iload 5] (by decide +kernel) (And.intro trivial ?_)
      exact z_iret hX (by decide +kernel) rfl (rfl) (by decide) (by decide) (by rw [hm]; exact ⟨rfl, rfl⟩)
    | cons q w2 ih =>
      intro w1 m he hm
      have hq := hw.2 q (by rw [he]; simp)
      have he2 : w = (w1 ++ [q]) ++ w2 := by rw [he]; simp
      have hst : stW (w1 ++ [q]) = stW w1 ++ stC q := by rw [stW_app]; show stW w1 ++ (stC q ++ []) = _; rw [List.append_nil]
      by_cases hq2 : q.1 < 2
      · obtain ⟨t1, t2, t3, t4⟩ := hq.2.2 hq2
        have hC : stC q = q.2.2.map stT ++ [((if q.1 = 0 then 103 else 115), 0, q.2.1)] := by unfold stC; rw [if_pos hq2]
        have hl' : ss = stW w1 ++ (q.2.2.map stT ++ ([((if q.1 = 0 then 103 else 115), 0, q.2.1)] ++ stW w2)) := by
          rw [← hss, he, stW_app]
          show stW w1 ++ (stC q ++ stW w2) = _
          rw [hC]; simp
        refine ht q.2.2 (stW w1) _ [] m 1 hl' t1 t2 (by show 0 + tn q.2.2 ≤ 26; unfold tn; omega) ?_
        have hlen1 := evS_len g p c q.2.2 [] 1 t2
        obtain ⟨bt, hbt⟩ : ∃ bt, evS g p c q.2.2 [] = [bt] := by
          match evS g p c q.2.2 [], hlen1 with
          | [bt], _ => exact ⟨bt, rfl⟩
        have hE : evE g p c q.2.2 = bt := by unfold evE; rw [hbt]; rfl
        rw [hbt]
        have hm2 : clF g p c w2 (m + (if q.1 < 2 ∧ evE g p c q.2.2 = true then (if q.1 = 0 then nI q.2.1 else -nI q.2.1) else 0)) = clN g w p c w.length := hm
        rw [hE] at hm2
        obtain ⟨i0, hi0⟩ : ∃ i0, i0 = (stW w1).length + q.2.2.length := ⟨_, rfl⟩
        have el1 : (stW w1 ++ q.2.2.map stT).length = i0 := by simp [hi0]
        obtain ⟨q1, q2, q3⟩ := eA (stW w1 ++ q.2.2.map stT) ((if q.1 = 0 then 103 else 115), 0, q.2.1) (stW w2) (by rw [hl']; simp)
        rw [el1] at q1 q2 q3
        rw [← hi0]
        have hlen : i0 < ss.length := by rw [hl', hi0]; simp
        have ci : (nI i0).toNatClampNeg = i0 := cl (by omega)
        have el2 : (stW (w1 ++ [q])).length = i0 + 1 := by rw [hst, hC, hi0]; simp; omega
        have kk2 := ih (w1 ++ [q]) _ he2 hm2
        rw [el2] at kk2
        have bt2 : nI (enc [bt]) &&& nI 1 = nI (bN bt) := pt_top (r := []) (by decide)
        have bs2 : nI (enc [bt]) >>> (nI 1 &&& 31) = nI (enc []) := pt_shr (r := []) (by decide)
        by_cases q0 : q.1 = 0
        · rw [if_pos q0] at q1
          have q1 : (sg K N Rf I L).2.2.1 va i0 = nI 103 := q1
          have e3 : m + nI (bN bt) * nI q.2.1 = m + (if q.1 < 2 ∧ bt = true then (if q.1 = 0 then nI q.2.1 else -nI q.2.1) else 0) := by
            cases bt with
            | true => rw [if_pos ⟨hq2, rfl⟩, if_pos q0, pk_mul]; show m + nI (1 * _) = _; rw [Nat.one_mul]
            | false => rw [if_neg (fun z => absurd z.2 (by decide)), pk_mul]; show m + nI (0 * _) = _; rw [Nat.zero_mul]; rfl
          refine bk hX lkX10_ok (pc' := 12) [.iload 7, .aload_n 0] (by decide +kernel) (And.intro trivial ?_)
          refine z_gI hX lkX10_ok 19 11 3 (fun k h => h) (by decide) (kso) (by decide +kernel) ?_
          rw [show (sg K N Rf I L).2.2.1 o 3 = nI ss.length from h3]
          refine ic_ge hX (206) 221 (by decide +kernel) (by decide) (fun c => absurd c (nI_ge hlen (by omega))) (fun c_15 => ?_)
          refine bk hX lkX10_ok (pc' := 25) [.iload 6, .iconst 1, .iand, .istore 8, .aload_n 0] (by decide +kernel) (And.intro trivial ?_)
          refine z_gR hX lkX10_ok 7 11 0 (fun k h => h) (kso) (hra) (by decide +kernel) ?_
          refine bk hX lkX10_ok (pc' := 30) [.iload 7] (by decide +kernel) (And.intro trivial ?_)
          refine z_iald hX lkX10_ok (ka) (na i0 (by omega)) (by decide +kernel) ?_
          rw [ci, q1]
          · refine z_lsw hX 116 (dflt := 133) (ps := #[(33, 49), (38, 58), (103, 85), (115, 109), (124, 73)]) (len := 49) (off := 85) (by decide +kernel) (by decide) (by decide) (by decide) ?_
            refine bk hX lkX10_ok (pc' := 127) [.iload 6, .iconst 1, .ishr, .istore 6, .iload 5, .iload 8, .aload_n 0] (by decide +kernel) (And.intro trivial ?_)
            refine z_gR hX lkX10_ok 16 11 2 (fun k h => h) (kso) (hrc) (by decide +kernel) ?_
            refine bk hX lkX10_ok (pc' := 132) [.iload 7] (by decide +kernel) (And.intro trivial ?_)
            refine z_iald hX lkX10_ok (kc) (nc i0 (by omega)) (by decide +kernel) ?_
            refine bk hX lkX10_ok (pc' := 137) [.imul, .iadd, .istore 5] (by decide +kernel) (And.intro trivial ?_)
            refine gt_ hX (78) 215 (by decide +kernel) (by decide) ?_
            refine bk hX lkX10_ok (pc' := 218) [.iinc 7 1] (by decide +kernel) (And.intro trivial ?_)
            refine gt_ hX (-209) 9 (by decide +kernel) (by decide) ?_
            refine z_lvk (lv' := [(0, _), (1, _), (2, _), (3, _), (4, _), (5, _), (6, _), (7, _)]) [4, 5, 6, 7, 8, 1, 2, 0] rfl ?_
            rw [ci, bt2, bs2, show (sg K N Rf I L).2.2.1 vc i0 = _ from q3, nI_add, e3]
            exact kk2
        · rw [if_neg q0] at q1
          have q1 : (sg K N Rf I L).2.2.1 va i0 = nI 115 := q1
          have e3 : m - nI (bN bt) * nI q.2.1 = m + (if q.1 < 2 ∧ bt = true then (if q.1 = 0 then nI q.2.1 else -nI q.2.1) else 0) := by
            cases bt with
            | true => rw [if_pos ⟨hq2, rfl⟩, if_neg q0, pk_mul, Int32.sub_eq_add_neg]; show m + -nI (1 * _) = _; rw [Nat.one_mul]
            | false => rw [if_neg (fun z => absurd z.2 (by decide)), pk_mul, Int32.sub_eq_add_neg]; show m + -nI (0 * _) = _; rw [Nat.zero_mul]; rfl
          refine bk hX lkX10_ok (pc' := 12) [.iload 7, .aload_n 0] (by decide +kernel) (And.intro trivial ?_)
          refine z_gI hX lkX10_ok 19 11 3 (fun k h => h) (by decide) (kso) (by decide +kernel) ?_
          rw [show (sg K N Rf I L).2.2.1 o 3 = nI ss.length from h3]
          refine ic_ge hX (206) 221 (by decide +kernel) (by decide) (fun c => absurd c (nI_ge hlen (by omega))) (fun c_15 => ?_)
          refine bk hX lkX10_ok (pc' := 25) [.iload 6, .iconst 1, .iand, .istore 8, .aload_n 0] (by decide +kernel) (And.intro trivial ?_)
          refine z_gR hX lkX10_ok 7 11 0 (fun k h => h) (kso) (hra) (by decide +kernel) ?_
          refine bk hX lkX10_ok (pc' := 30) [.iload 7] (by decide +kernel) (And.intro trivial ?_)
          refine z_iald hX lkX10_ok (ka) (na i0 (by omega)) (by decide +kernel) ?_
          rw [ci, q1]
          · refine z_lsw hX 140 (dflt := 133) (ps := #[(33, 49), (38, 58), (103, 85), (115, 109), (124, 73)]) (len := 49) (off := 109) (by decide +kernel) (by decide) (by decide) (by decide) ?_
            refine bk hX lkX10_ok (pc' := 151) [.iload 6, .iconst 1, .ishr, .istore 6, .iload 5, .iload 8, .aload_n 0] (by decide +kernel) (And.intro trivial ?_)
            refine z_gR hX lkX10_ok 16 11 2 (fun k h => h) (kso) (hrc) (by decide +kernel) ?_
            refine bk hX lkX10_ok (pc' := 156) [.iload 7] (by decide +kernel) (And.intro trivial ?_)
            refine z_iald hX lkX10_ok (kc) (nc i0 (by omega)) (by decide +kernel) ?_
            refine bk hX lkX10_ok (pc' := 161) [.imul, .isub, .istore 5] (by decide +kernel) (And.intro trivial ?_)
            refine gt_ hX (54) 215 (by decide +kernel) (by decide) ?_
            refine bk hX lkX10_ok (pc' := 218) [.iinc 7 1] (by decide +kernel) (And.intro trivial ?_)
            refine gt_ hX (-209) 9 (by decide +kernel) (by decide) ?_
            refine z_lvk (lv' := [(0, _), (1, _), (2, _), (3, _), (4, _), (5, _), (6, _), (7, _)]) [4, 5, 6, 7, 8, 1, 2, 0] rfl ?_
            rw [ci, bt2, bs2, show (sg K N Rf I L).2.2.1 vc i0 = _ from q3, nI_add, e3]
            exact kk2
      · have hC : stC q = [] := by unfold stC; rw [if_neg hq2]
        have hm2 : clF g p c w2 (m + (if q.1 < 2 ∧ evE g p c q.2.2 = true then (if q.1 = 0 then nI q.2.1 else -nI q.2.1) else 0)) = clN g w p c w.length := hm
        rw [if_neg (fun z => hq2 z.1), Int32.add_zero] at hm2
        have kk2 := ih (w1 ++ [q]) m he2 hm2
        rw [hst, hC, List.append_nil] at kk2
        exact kk2
  refine bk hX lkX10_ok (pc' := 9) [.iconst 0, .istore 5, .iconst 0, .istore 6, .iconst 0, .istore 7] (by decide +kernel) (And.intro trivial ?_)
  refine z_lvk (lv' := [(0, _), (1, _), (2, _), (3, _), (4, _), (5, _), (6, _), (7, _)]) [3, 4, 5, 6, 7, 2, 1, 0] rfl ?_
  exact hl w [] 0 rfl (by have := clF_N g p c w w.length (Nat.le_refl _); rwa [List.take_length] at this)
