/-! ===== rules for what is made new, for references in rows, for what lies at places that aren't fixed, for other calls ===== -/
def upK (K : Nat → Nat) (n v : Nat) : Nat → Nat := fun p => bif Nat.beq p n then v else K p
def upW {α : Type} (f : Nat → Nat → α) (n : Nat) (v : α) : Nat → Nat → α := fun p k => bif Nat.beq p n then v else f p k
theorem bq_t (p : Nat) : Nat.beq p p = true := Nat.beq_refl p
theorem bq_f {p q : Nat} (h : p ≠ q) : Nat.beq p q = false := by
  cases hb : Nat.beq p q with
  | false => rfl
  | true => exact absurd (Nat.eq_of_beq_eq_true hb) h
theorem upK_at (K : Nat → Nat) (n v : Nat) : upK K n v n = v := by simp only [upK, bq_t, cond_true]
theorem upK_ne (K : Nat → Nat) {n p : Nat} (v : Nat) (h : p ≠ n) : upK K n v p = K p := by simp only [upK, bq_f h, cond_false]
theorem upW_at {α : Type} (f : Nat → Nat → α) (n : Nat) (v : α) (k : Nat) : upW f n v n k = v := by simp only [upW, bq_t, cond_true]
theorem upW_ne {α : Type} (f : Nat → Nat → α) {n p : Nat} (v : α) (h : p ≠ n) : upW f n v p = f p := by funext k; simp only [upW, bq_f h, cond_false]
def zNewO (σ : Sg) (n ci : Nat) : Sg := match σ with
  | (K, N, I, L, R) => (upK K n (ci + 1), N, upW I n 0, L, upW R n none)
def zNewA (σ : Sg) (n t len : Nat) : Sg := match σ with
  | (K, N, I, L, R) => (upK K n (20 + t), upK N n len, upW I n 0, upW L n 0, upW R n none)
theorem zRl_push {G : zG} {b0 : Nat} {ad : Nat → Nat} {σ σ' : Sg} {H H' : Heap} {n : Nat} (h : zRl G b0 ad σ H) (hn : σ.1 n = 0) (hb : b0 ≤ H.size) (hz : H'.size = H.size + 1) (ho : ∀ q, q < H.size → H'[q]? = H[q]?) (k1 : σ'.1 n ≠ 0) (k2 : σ'.1 n < 30)
    (e1 : ∀ p, p ≠ n → σ'.1 p = σ.1 p) (e2 : ∀ p, p ≠ n → σ'.2.1 p = σ.2.1 p) (e3 : ∀ p, p ≠ n → σ'.2.2.1 p = σ.2.2.1 p) (e4 : ∀ p, p ≠ n → σ'.2.2.2.1 p = σ.2.2.2.1 p) (e5 : ∀ p, p ≠ n → σ'.2.2.2.2 p = σ.2.2.2.2 p) (e6 : ∀ k, σ'.2.2.2.2 n k = none)
    {ad' : Nat → Nat} (a1 : ad' n = H.size) (a2 : ∀ p, p ≠ n → ad' p = ad p) (hok : zOK G ad' σ' H' n) : zRl G b0 ad' σ' H' := by
  have hne : ∀ p, σ.1 p ≠ 0 → p ≠ n := fun p hp e => hp (by rw [e]; exact hn)
  refine ⟨fun p hp => ?_, fun p q hp hp3 hq hq3 e => ?_, fun p k q hp hq => ?_, fun i hi => ?_⟩
  · by_cases e : p = n
    · subst e
      rw [a1]
      exact ⟨by omega, fun _ => ⟨hb, hok⟩⟩
    · rw [e1 p e] at hp ⊢
      obtain ⟨h1, h2⟩ := h.1 p hp
      rw [a2 p e]
      refine ⟨by omega, fun h3 => ?_⟩
      obtain ⟨h4, h5⟩ := h2 h3
      exact ⟨h4, zOK_same h5 (e1 p e) (e2 p e) (e3 p e) (e4 p e) (e5 p e) (a2 p e) (fun k q hq => a2 q (hne q (h.2.2.1 p k q hp hq))) (ho _ h1)⟩
  · by_cases ep : p = n <;> by_cases eq : q = n
    · rw [ep, eq]
    · exfalso
      rw [ep, a1, a2 q eq] at e
      rw [e1 q eq] at hq
      have := (h.1 q hq).1
      omega
    · exfalso
      rw [eq, a1, a2 p ep] at e
      rw [e1 p ep] at hp
      have := (h.1 p hp).1
      omega
    · rw [e1 p ep] at hp hp3
      rw [e1 q eq] at hq hq3
      rw [a2 p ep, a2 q eq] at e
      exact h.2.1 p q hp hp3 hq hq3 e
  · by_cases e : p = n
    · subst e; rw [e6] at hq; cases hq
    · rw [e1 p e] at hp
      rw [e5 p e] at hq
      have := h.2.2.1 p k q hp hq
      rw [e1 q (hne q this)]
      exact this
  · obtain ⟨h1, h2, h3, h4⟩ := h.2.2.2 i hi
    have n1 := hne (900 + i) (by rw [h1]; decide)
    have n2 := hne (910 + i) (by rw [h3]; decide)
    exact ⟨by rw [e1 _ n1]; exact h1, by rw [a2 _ n1]; exact h2, by rw [e1 _ n2]; exact h3, by rw [a2 _ n2]; exact h4⟩
theorem zdef : ∀ ci, ci < 14 → ∀ k, k < 70 → defaultValue (zty ci k) = if zisR (zty ci k) = true then .null else .int 0 := by decide +kernel
theorem zNle {ci : Nat} {q : vw_C} (h : vwCl[ci]? = some q) : q.2.2 ≤ 70 := by
  have h2 : ∀ i, i < 14 → (match vwCl[i]? with | some q => decide (q.2.2 ≤ 70) | none => false) = true := by decide +kernel
  have := h2 ci (zcl_lt h)
  rw [h] at this
  exact of_decide_eq_true this
def zNw (own : String) (idx ci : Nat) (cq : vw_C) : Prop := vwCl[ci]? = some cq ∧ Cond.classLink own idx cq.1 ∈ zGW ∧ Cond.instantiable cq.1 cq.2.2 ∈ zGW ∧ Cond.initialized cq.1 ∈ zGW
section
variable {X : zX} {E : zE} {M : zM} {d mc ms : Nat} {Po : Option Value → Sg → Prop} {σ : Sg} {cells slots pc : Nat} {lv : List (Nat × Value)} {st : List Value}
theorem z_ad {ad ad' : Nat → Nat} {lv : List (Nat × Value)} (h : ∀ x ∈ lv, zlv σ x.2) (ha : ∀ q, σ.1 q ≠ 0 → ad' q = ad q) : (lv.map fun x => (x.1, ph ad' x.2)) = lv.map fun x => (x.1, ph ad x.2) := List.map_congr_left fun x hx => by rw [z_phl ha (h x hx)]
theorem z_ads {ad ad' : Nat → Nat} {st : List Value} (h : ∀ v ∈ st, zlv σ v) (ha : ∀ q, σ.1 q ≠ 0 → ad' q = ad q) : st.map (ph ad') = st.map (ph ad) := List.map_congr_left fun v hv => z_phl ha (h v hv)
theorem z_new (hX : zD X E M d mc ms Po) {idx ci : Nat} {cq : vw_C} (hw : zNw M.1.cls idx ci cq) (n : Nat) (hn : σ.1 n = 0) (hd : decode M.2.1 pc = .ok (.new idx, 3)) (hc : cells + 1 ≤ mc) (hs : slots + cq.2.2 ≤ ms) (kk : zS X (zNewO σ n ci) (cells + 1) (slots + cq.2.2) (pc + 3) lv (.ref n :: st)) : zS X σ cells slots pc lv st := by
  obtain ⟨p, l, e, R, s, m, args, below, meth, c, Q, G, b0, nL, σ0, ad0⟩ := X
  obtain ⟨⟨hx, hb, hml, hown, hts, hK, hlocks, hb0, hnL, hrt, hnm, hEx⟩, h1, h2, h3, h4, h5⟩ := hX
  subst h1 h2 h3 h4
  intro ad H locs ls a1 a2 a3 a4 a5 a6
  obtain ⟨w1, w2, w3, w4⟩ := hw
  have ok : ∀ {w : Cond}, w ∈ zGW → w.before args s = true := fun h => hts _ (List.mem_cons_of_mem _ h)
  have hKn := hK.1 ci cq w1
  obtain ⟨K, N, I, L, Rf⟩ := σ
  have hn' : K n = 0 := hn
  refine W.newcK hx hb hown (ok w2) (ok w3) (ok w4) rfl hd hc hs hKn.2.1 rfl fun H1 kC hkC g1 z1 o1 => ?_
  have hlive : ∀ q, K q ≠ 0 → q ≠ n := fun q hq e => hq (by rw [e]; exact hn')
  have had : ∀ q, K q ≠ 0 → (fun q => bif Nat.beq q n then H.size else ad q) q = ad q := fun q hq => by simp only [bq_f (hlive q hq), cond_false]
  have had1 : (fun q => bif Nat.beq q n then H.size else ad q) n = H.size := by simp only [bq_t, cond_true]
  have hKl : ∀ q, K q ≠ 0 → upK K n (ci + 1) q ≠ 0 := fun q hq => by rw [upK_ne _ _ (hlive q hq)]; exact hq
  have hrl : zRl E.2.1 E.2.2 (fun q => bif Nat.beq q n then H.size else ad q) (zNewO (K, N, I, L, Rf) n ci) H1 := by
    refine zRl_push (σ' := zNewO (K, N, I, L, Rf) n ci) (ad' := fun q => bif Nat.beq q n then H.size else ad q) a2 hn' (Nat.le_trans hb0 a5.1) z1 o1 (by show upK K n _ n ≠ 0; rw [upK_at]; exact Nat.succ_ne_zero _) (by show upK K n _ n < 30; rw [upK_at]; have := zcl_lt w1; omega) (fun p hp => upK_ne _ _ hp) (fun _ _ => rfl) (fun p hp => upW_ne _ _ hp) (fun _ _ => rfl) (fun p hp => upW_ne _ _ hp) (fun k => upW_at _ _ _ _) had1 (fun p hp => by simp only [bq_f hp, cond_false]) ⟨fun ci' cq' hk hcq => ?_, fun t ht hk => ?_⟩
    · have e1 : ci' = ci := by
        have : upK K n (ci + 1) n = ci' + 1 := hk
        rw [upK_at] at this; omega
      subst e1
      cases w1.symm.trans hcq
      rw [had1]
      refine (u_born (zty ci') hts (fun w h => List.mem_cons_of_mem _ (zin w1 w h)) hKn hkC g1 (zty_ok w1)).to (fun k hk2 => ?_)
      rw [zdef ci' (zcl_lt w1) k (Nat.lt_of_lt_of_le hk2 (zNle w1))]
      unfold zfv
      split
      · show Value.null = va_rf (Option.map _ (upW Rf n none n k)); rw [upW_at]; rfl
      · show Value.int 0 = .int (upW I n 0 n k); rw [upW_at]
    · have : upK K n (ci + 1) n = 20 + t := hk
      rw [upK_at] at this
      have := zcl_lt w1
      omega
  have K1 := kk (fun q => bif Nat.beq q n then H.size else ad q) H1 locs ls (fun q hq => by
      have g := a1 q hq
      have g2 : K q ≠ 0 := by rw [show K q = σ0.1 q from g.2]; exact hq
      exact ⟨(had q g2).trans g.1, (upK_ne _ _ (hlive q g2)).trans g.2⟩) hrl (fun x hx q hq => hKl q (a3 x hx q hq)) (fun v hv q hq => by
      rcases List.mem_cons.mp hv with rfl | hv
      · cases hq; show upK K n _ n ≠ 0; rw [upK_at]; exact Nat.succ_ne_zero _
      · exact hKl q (a4 v hv q hq)) ⟨Nat.le_trans a5.1 (by omega), fun q g1 g2 => (o1 q (Nat.lt_of_lt_of_le g1 a5.1)).trans (a5.2.1 q g1 g2), a5.2.2⟩ (by rw [z_ad (σ := (K, N, I, L, Rf)) a3 had]; exact a6)
  have e9 : (Value.ref n :: st).map (ph (fun q => bif Nat.beq q n then H.size else ad q)) = .ref H.size :: st.map (ph ad) := by
    rw [List.map_cons, z_ads (σ := (K, N, I, L, Rf)) a4 had]
    show Value.ref _ :: _ = _
    rw [had1]
  rw [e9] at K1
  exact K1
theorem z_fresh (hX : zD X E M d mc ms Po) {t n len : Nat} (ht : t < 6) (hn : σ.1 n = 0) {cells' slots' pc' : Nat} (kk : zS X (zNewA σ n t len) cells' slots' pc' lv (.ref n :: st)) : match X with
    | (p, l, e, R, s, m, args, below, meth, c, Q, G, b0, nL, σ0, ad0) => ∀ (ad : Nat → Nat) (H H1 : Heap) (locs : List Loc) (ls : Array Slot), (∀ q, σ0.1 q ≠ 0 → ad q = ad0 q ∧ σ.1 q = σ0.1 q) → zRl G b0 ad σ H → (∀ x ∈ lv, zlv σ x.2) → (∀ v ∈ st, zlv σ v) → va_S (fun q => b0 ≤ q) s.heap H locs → lv_has ls nL (lv.map fun x => (x.1, ph ad x.2)) →
      H1[H.size]? = some (arrV (G.2.2.1 t) len (fun _ => if t = 3 then .long 0 else if t = 5 then .null else .int 0)) → H1.size = H.size + 1 → (∀ q, q < H.size → H1[q]? = H[q]?) → W p l e R s m args below meth c H1 locs cells' slots' Q (F0 m pc' ls (.ref H.size :: st.map (ph ad))) := by
  obtain ⟨p, l, e, R, s, m, args, below, meth, c, Q, G, b0, nL, σ0, ad0⟩ := X
  obtain ⟨⟨hx, hb, hml, hown, hts, hK, hlocks, hb0, hnL, hrt, hnm, hEx⟩, h1, h2, h3, h4, h5⟩ := hX
  intro ad H H1 locs ls a1 a2 a3 a4 a5 a6 g1 z1 o1
  obtain ⟨K, N, I, L, Rf⟩ := σ
  have hn' : K n = 0 := hn
  have hlive : ∀ q, K q ≠ 0 → q ≠ n := fun q hq e => hq (by rw [e]; exact hn')
  have had : ∀ q, K q ≠ 0 → (fun q => bif Nat.beq q n then H.size else ad q) q = ad q := fun q hq => by simp only [bq_f (hlive q hq), cond_false]
  have had1 : (fun q => bif Nat.beq q n then H.size else ad q) n = H.size := by simp only [bq_t, cond_true]
  have hKl : ∀ q, K q ≠ 0 → upK K n (20 + t) q ≠ 0 := fun q hq => by rw [upK_ne _ _ (hlive q hq)]; exact hq
  have hrl : zRl G b0 (fun q => bif Nat.beq q n then H.size else ad q) (zNewA (K, N, I, L, Rf) n t len) H1 := by
    refine zRl_push (σ' := zNewA (K, N, I, L, Rf) n t len) (ad' := fun q => bif Nat.beq q n then H.size else ad q) a2 hn' (Nat.le_trans hb0 a5.1) z1 o1 (by show upK K n _ n ≠ 0; rw [upK_at]; omega) (by show upK K n _ n < 30; rw [upK_at]; omega) (fun p hp => upK_ne _ _ hp) (fun p hp => upK_ne _ _ hp) (fun p hp => upW_ne _ _ hp) (fun p hp => upW_ne _ _ hp) (fun p hp => upW_ne _ _ hp) (fun k => upW_at _ _ _ _) had1 (fun p hp => by simp only [bq_f hp, cond_false]) ⟨fun ci' cq' hk hcq => ?_, fun t' ht' hk => ?_⟩
    · have : upK K n (20 + t) n = ci' + 1 := hk
      rw [upK_at] at this
      have := zcl_lt hcq
      omega
    · have e1 : t' = t := by
        have : upK K n (20 + t) n = 20 + t' := hk
        rw [upK_at] at this; omega
      subst e1
      rw [had1, g1]
      have e2 : (zNewA (K, N, I, L, Rf) n t' len).2.1 n = len := upK_at _ _ _
      rw [e2]
      congr 2
      funext j
      unfold zel
      split
      · show Value.long 0 = .long (upW L n 0 n j); rw [upW_at]
      · split
        · show Value.null = va_rf (Option.map _ (upW Rf n none n j)); rw [upW_at]; rfl
        · show Value.int 0 = .int (upW I n 0 n j); rw [upW_at]
  have K1 := kk (fun q => bif Nat.beq q n then H.size else ad q) H1 locs ls (fun q hq => by
      have g := a1 q hq
      have g2 : K q ≠ 0 := by rw [show K q = σ0.1 q from g.2]; exact hq
      exact ⟨(had q g2).trans g.1, (upK_ne _ _ (hlive q g2)).trans g.2⟩) hrl (fun x hx q hq => hKl q (a3 x hx q hq)) (fun v hv q hq => by
      rcases List.mem_cons.mp hv with rfl | hv
      · cases hq; show upK K n _ n ≠ 0; rw [upK_at]; omega
      · exact hKl q (a4 v hv q hq)) ⟨Nat.le_trans a5.1 (by omega), fun q g1 g2 => (o1 q (Nat.lt_of_lt_of_le g1 a5.1)).trans (a5.2.1 q g1 g2), a5.2.2⟩ (by rw [z_ad (σ := (K, N, I, L, Rf)) a3 had]; exact a6)
  have e9 : (Value.ref n :: st).map (ph (fun q => bif Nat.beq q n then H.size else ad q)) = .ref H.size :: st.map (ph ad) := by
    rw [List.map_cons, z_ads (σ := (K, N, I, L, Rf)) a4 had]
    show Value.ref _ :: _ = _
    rw [had1]
  rw [e9] at K1
  exact K1
theorem z_newa (hX : zD X E M d mc ms Po) {atype : ArrayType} {t : Nat} (ht : t < 5) (hty : newarray.typeOf atype = zat t) (harr : Cond.arrayClass (zat t) ∈ zGW) (n : Nat) (hn : σ.1 n = 0) {v : Int32} {len : Nat} (hv : ¬ v < 0) (hl : v.toNatClampNeg = len) (hl2 : len ≤ 1000000) (hd : decode M.2.1 pc = .ok (.newarray atype, 2)) (hc : cells + 1 ≤ mc) (hs : slots + len ≤ ms) (kk : zS X (zNewA σ n t len) (cells + 1) (slots + len) (pc + 2) lv (.ref n :: st)) : zS X σ cells slots pc lv (.int v :: st) := by
  have F := z_fresh hX (t := t) (by omega) hn kk
  obtain ⟨p, l, e, R, s, m, args, below, meth, c, Q, G, b0, nL, σ0, ad0⟩ := X
  obtain ⟨⟨hx, hb, hml, hown, hts, hK, hlocks, hb0, hnL, hrt, hnm, hEx⟩, h1, h2, h3, h4, h5⟩ := hX
  subst h1 h2 h3 h4
  intro ad H locs ls a1 a2 a3 a4 a5 a6
  have hcb : componentBytes (newarray.typeOf atype) ≤ 8 := by cases atype <;> decide
  refine va_newaK hx hb (by rw [hty]; exact hts _ (List.mem_cons_of_mem _ harr)) rfl hd rfl hv hl (Nat.le_trans (Nat.mul_le_mul hl2 hcb) (by decide)) hc hs rfl fun H1 cA e1 z1 o1 hAr hNm => ?_
  have hRA := (hK.2.1 t (by omega)).2
  have ecA : cA = E.2.1.2.2.1 t := by
    rw [hty] at hNm
    have h5 : t = 0 ∨ t = 1 ∨ t = 2 ∨ t = 3 ∨ t = 4 := by omega
    rcases h5 with rfl | rfl | rfl | rfl | rfl <;> exact Option.some.inj (hNm.symm.trans hRA)
  subst ecA
  refine F ad H H1 locs ls a1 a2 a3 (zl_t a4) a5 a6 ?_ z1 o1
  rw [e1, hty]
  have h5 : t = 0 ∨ t = 1 ∨ t = 2 ∨ t = 3 ∨ t = 4 := by omega
  rcases h5 with rfl | rfl | rfl | rfl | rfl <;> rfl
theorem z_newq (hX : zD X E M d mc ms Po) {idx : Nat} (hcl : Cond.classLink M.1.cls idx "PunchedSouls$Hand" ∈ zGW) (n : Nat) (hn : σ.1 n = 0) {v : Int32} {len : Nat} (hv : ¬ v < 0) (hl : v.toNatClampNeg = len) (hl2 : len ≤ 1000000) (hd : decode M.2.1 pc = .ok (.anewarray idx, 3)) (hc : cells + 1 ≤ mc) (hs : slots + len ≤ ms) (kk : zS X (zNewA σ n 5 len) (cells + 1) (slots + len) (pc + 3) lv (.ref n :: st)) : zS X σ cells slots pc lv (.int v :: st) := by
  have F := z_fresh hX (t := 5) (by omega) hn kk
  obtain ⟨p, l, e, R, s, m, args, below, meth, c, Q, G, b0, nL, σ0, ad0⟩ := X
  obtain ⟨⟨hx, hb, hml, hown, hts, hK, hlocks, hb0, hnL, hrt, hnm, hEx⟩, h1, h2, h3, h4, h5⟩ := hX
  subst h1 h2 h3 h4
  intro ad H locs ls a1 a2 a3 a4 a5 a6
  subst hl
  refine W.anew hx hb hown (hts _ (List.mem_cons_of_mem _ hcl)) (va_AO.use hK.2.2.2.2.1) rfl hd rfl hv (by omega) hc hs fun cA kA comp f1 f2 f3 f4 => ?_
  have hRA := (hK.2.1 5 (by omega)).2
  have ecA : cA = E.2.1.2.2.1 5 := by
    obtain ⟨kA', comp', q1, q2, q3, q4⟩ := hRA
    exact Option.some.inj (f1.symm.trans q4)
  subst ecA
  refine F ad H _ locs ls a1 a2 a3 (zl_t a4) a5 a6 ?_ (by rw [Array.size_push]) (fun q hq => by rw [Array.getElem?_push, if_neg (Nat.ne_of_lt hq)])
  rw [Array.getElem?_push_size, ← arrV_new]
  rfl
end
