/-! ===== the model is made ===== -/
def x12P (σ : Sg) : Sg := pR (zNewA (pR (zNewA (pR (zNewA (pR (pI (pI (pI (pI (pI (pI (zNewA (pR (zNewA (pI (pR (zNewA (pR (zNewA (pR (zNewA (pR (zNewA (pR (zNewA (pR (zNewA (pR (zNewA (pR (zNewA (pR (zNewA (pR (zNewA (pR (zNewA (pR (zNewA (pI (pI (pI (pI (pI (pI (pI (pI (pR (zNewA (pR (zNewA (pR (zNewA (pR (zNewA (pI (pI (pR (zNewA (pR (zNewA (pR (zNewA (pI (pR (zNewA (pR (zNewA (pR (zNewA (pR (zNewA (pR (zNewA (pI (pI (pR (zNewA (pR (zNewA (pR (pI (pI (pI (pI (pI (pI (pI (pI (pI (pI (pI (pI (pI (zNewA (pI (pI (pI (pR (zNewA (pR (zNewA (pR (zNewA (pR (zNewA (pR (zNewA (pR (zNewA (pR (zNewA (pR (zNewA (pI (pI (pI (pI (pI (pR (zNewA (pR (zNewA (pR (zNewA (pR (zNewA (pR (zNewA (pI (pI (pI (σ) 100 0 (nI 0)) 100 1 (nI 0)) 100 2 (nI 0)) 104 2 6) 100 3 (some 104)) 105 2 6) 100 4 (some 105)) 106 2 6) 100 5 (some 106)) 107 2 6) 100 6 (some 107)) 108 2 24) 100 7 (some 108)) 100 8 (nI 0)) 100 9 (-nI 1)) 100 10 (nI 0)) 100 11 (nI 0)) 100 12 (nI 0)) 114 2 100) 100 13 (some 114)) 115 2 6) 100 14 (some 115)) 116 2 60) 100 15 (some 116)) 117 2 60) 100 16 (some 117)) 118 2 60) 100 17 (some 118)) 119 2 60) 100 18 (some 119)) 120 2 600) 100 19 (some 120)) 121 2 101) 100 20 (some 121)) 100 21 (nI 0)) 100 22 (nI 0)) 100 23 (nI 0)) 125 2 13) 125 0 (nI 103)) 125 1 (nI 108)) 125 2 (nI 97)) 125 3 (nI 100)) 125 4 (nI 115)) 125 5 (nI 111)) 125 6 (nI 117)) 125 7 (nI 114)) 125 8 (nI 114)) 125 9 (nI 111)) 125 10 (nI 117)) 125 11 (nI 110)) 125 12 (nI 100)) 100 24 (some 125)) 126 4 100) 100 25 (some 126)) 127 2 6) 100 26 (some 127)) 100 27 (nI 0)) 100 28 (nI 0)) 130 2 6) 100 29 (some 130)) 131 2 6) 100 30 (some 131)) 132 2 36) 100 31 (some 132)) 133 2 6) 100 32 (some 133)) 134 2 6) 100 33 (some 134)) 100 34 (nI 0)) 136 2 5) 100 35 (some 136)) 137 2 5) 100 36 (some 137)) 138 2 5) 100 37 (some 138)) 100 38 (nI 0)) 100 39 (nI 0)) 141 2 10) 100 40 (some 141)) 142 2 10) 100 41 (some 142)) 143 2 8) 100 42 (some 143)) 144 2 8) 100 43 (some 144)) 100 44 (nI 0)) 100 45 (-nI 1)) 100 46 (nI 0)) 100 47 (nI 0)) 100 48 (nI 0)) 100 49 (nI 0)) 100 50 (nI 0)) 100 51 (nI 0)) 153 2 6) 100 52 (some 153)) 154 2 6) 100 53 (some 154)) 155 2 6) 100 54 (some 155)) 156 2 6) 100 55 (some 156)) 157 2 24) 100 56 (some 157)) 158 2 5) 100 57 (some 158)) 159 2 5) 100 58 (some 159)) 160 2 5) 100 59 (some 160)) 161 2 10) 100 60 (some 161)) 162 2 10) 100 61 (some 162)) 163 2 8) 100 62 (some 163)) 164 2 8) 100 63 (some 164)) 100 64 (nI 0)) 166 2 20) 100 65 (some 166)) 167 2 6) 167 0 (-nI 1)) 167 1 (-nI 1)) 167 2 (-nI 1)) 167 3 (-nI 1)) 167 4 (-nI 1)) 167 5 (-nI 1)) 100 66 (some 167)) 168 2 6) 100 67 (some 168)) 169 3 360) 100 68 (some 169)) 170 3 60) 100 69 (some 170)
set_option maxHeartbeats 8000000 in
set_option maxRecDepth 4000 in
theorem c_X12_init (E : zE) (σ : Sg) (hk : σ.1 100 = 14) (f : frs [104, 105, 106, 107, 108, 114, 115, 116, 117, 118, 119, 120, 121, 125, 126, 127, 130, 131, 132, 133, 134, 136, 137, 138, 141, 142, 143, 144, 153, 154, 155, 156, 157, 158, 159, 160, 161, 162, 163, 164, 166, 167, 168, 169, 170] σ) : zCt E mX12_init 1 45 1876 σ [.ref 100] (fun v σ' => σ' = x12P σ ∧ v = none) := by
  refine z_intro (by decide) (Nat.le_of_ble_eq_true rfl) (fun X hX => ?_)
  refine bk hX lkX12_ok (pc' := 1) [.aload_n 0] (by decide +kernel) (And.intro trivial ?_)
  refine z_obj hX ko_X12_1 (by decide +kernel) (by decide) (Nat.le_of_ble_eq_true rfl) (by omega) (by omega) ?_
  refine bk hX lkX12_ok (pc' := 6) [.aload_n 0, .iconst 0] (by decide +kernel) (And.intro trivial ?_)
  refine z_pI hX liX12_ok (ini := true) (fun _ => liX12_i) 7 13 0 (fun k h => h) rfl hk (by decide +kernel) ?_
  obtain ⟨s1, e1⟩ : ∃ s, s = pI σ 100 0 (nI 0) := ⟨_, rfl⟩
  show zS X (pI σ 100 0 (nI 0)) _ _ _ _ _
  rw [← e1]
  have f1 : frs [104, 105, 106, 107, 108, 114, 115, 116, 117, 118, 119, 120, 121, 125, 126, 127, 130, 131, 132, 133, 134, 136, 137, 138, 141, 142, 143, 144, 153, 154, 155, 156, 157, 158, 159, 160, 161, 162, 163, 164, 166, 167, 168, 169, 170] s1 := by
    rw [e1]
    exact frs_I f _ _ _
  have hk1 : s1.1 100 = 14 := by
    rw [e1]
    exact hk
  refine bk hX lkX12_ok (pc' := 11) [.aload_n 0, .iconst 0] (by decide +kernel) (And.intro trivial ?_)
  refine z_pI hX liX12_ok (ini := true) (fun _ => liX12_i) 13 13 1 (fun k h => h) rfl hk1 (by decide +kernel) ?_
  obtain ⟨s2, e2⟩ : ∃ s, s = pI s1 100 1 (nI 0) := ⟨_, rfl⟩
  show zS X (pI s1 100 1 (nI 0)) _ _ _ _ _
  rw [← e2]
  have f2 : frs [104, 105, 106, 107, 108, 114, 115, 116, 117, 118, 119, 120, 121, 125, 126, 127, 130, 131, 132, 133, 134, 136, 137, 138, 141, 142, 143, 144, 153, 154, 155, 156, 157, 158, 159, 160, 161, 162, 163, 164, 166, 167, 168, 169, 170] s2 := by
    rw [e2]
    exact frs_I f1 _ _ _
  have hk2 : s2.1 100 = 14 := by
    rw [e2]
    exact hk1
  refine bk hX lkX12_ok (pc' := 16) [.aload_n 0, .iconst 0] (by decide +kernel) (And.intro trivial ?_)
  refine z_pI hX liX12_ok (ini := true) (fun _ => liX12_i) 16 13 2 (fun k h => h) rfl hk2 (by decide +kernel) ?_
  obtain ⟨s3, e3⟩ : ∃ s, s = pI s2 100 2 (nI 0) := ⟨_, rfl⟩
  show zS X (pI s2 100 2 (nI 0)) _ _ _ _ _
  rw [← e3]
  have f3 : frs [104, 105, 106, 107, 108, 114, 115, 116, 117, 118, 119, 120, 121, 125, 126, 127, 130, 131, 132, 133, 134, 136, 137, 138, 141, 142, 143, 144, 153, 154, 155, 156, 157, 158, 159, 160, 161, 162, 163, 164, 166, 167, 168, 169, 170] s3 := by
    rw [e3]
    exact frs_I f2 _ _ _
  have hk3 : s3.1 100 = 14 := by
    rw [e3]
    exact hk2
  refine bk hX lkX12_ok (pc' := 22) [.aload_n 0, .bipush 6] (by decide +kernel) (And.intro trivial ?_)
  refine z_newa hX (atype := .int) (t := 2) (by decide) rfl ka_int 104 (f3 _ List.mem_cons_self) (len := 6) (by decide) (by decide) (by decide) (by decide +kernel) (by omega) (by omega) ?_
  obtain ⟨s4, e4⟩ : ∃ s, s = zNewA s3 104 2 6 := ⟨_, rfl⟩
  show zS X (zNewA s3 104 2 6) _ _ _ _ _
  rw [← e4]
  have f4 : frs [105, 106, 107, 108, 114, 115, 116, 117, 118, 119, 120, 121, 125, 126, 127, 130, 131, 132, 133, 134, 136, 137, 138, 141, 142, 143, 144, 153, 154, 155, 156, 157, 158, 159, 160, 161, 162, 163, 164, 166, 167, 168, 169, 170] s4 := by
    rw [e4]
    exact frs_A f3 (by decide) _ _
  have hk4 : s4.1 100 = 14 := by
    rw [e4]
    exact kA hk3 (by decide) _ _
  refine z_pR hX liX12_ok (ini := true) (fun _ => liX12_i) 19 13 3 (fun k h => h) rfl hk4 (by decide +kernel) ?_
  obtain ⟨s5, e5⟩ : ∃ s, s = pR s4 100 3 (some 104) := ⟨_, rfl⟩
  show zS X (pR s4 100 3 (some 104)) _ _ _ _ _
  rw [← e5]
  have f5 : frs [105, 106, 107, 108, 114, 115, 116, 117, 118, 119, 120, 121, 125, 126, 127, 130, 131, 132, 133, 134, 136, 137, 138, 141, 142, 143, 144, 153, 154, 155, 156, 157, 158, 159, 160, 161, 162, 163, 164, 166, 167, 168, 169, 170] s5 := by
    rw [e5]
    exact frs_R f4 _ _ _
  have hk5 : s5.1 100 = 14 := by
    rw [e5]
    exact hk4
  refine bk hX lkX12_ok (pc' := 30) [.aload_n 0, .bipush 6] (by decide +kernel) (And.intro trivial ?_)
  refine z_newa hX (atype := .int) (t := 2) (by decide) rfl ka_int 105 (f5 _ List.mem_cons_self) (len := 6) (by decide) (by decide) (by decide) (by decide +kernel) (by omega) (by omega) ?_
  obtain ⟨s6, e6⟩ : ∃ s, s = zNewA s5 105 2 6 := ⟨_, rfl⟩
  show zS X (zNewA s5 105 2 6) _ _ _ _ _
  rw [← e6]
  have f6 : frs [106, 107, 108, 114, 115, 116, 117, 118, 119, 120, 121, 125, 126, 127, 130, 131, 132, 133, 134, 136, 137, 138, 141, 142, 143, 144, 153, 154, 155, 156, 157, 158, 159, 160, 161, 162, 163, 164, 166, 167, 168, 169, 170] s6 := by
    rw [e6]
    exact frs_A f5 (by decide) _ _
  have hk6 : s6.1 100 = 14 := by
    rw [e6]
    exact kA hk5 (by decide) _ _
  refine z_pR hX liX12_ok (ini := true) (fun _ => liX12_i) 23 13 4 (fun k h => h) rfl hk6 (by decide +kernel) ?_
  obtain ⟨s7, e7⟩ : ∃ s, s = pR s6 100 4 (some 105) := ⟨_, rfl⟩
  show zS X (pR s6 100 4 (some 105)) _ _ _ _ _
  rw [← e7]
  have f7 : frs [106, 107, 108, 114, 115, 116, 117, 118, 119, 120, 121, 125, 126, 127, 130, 131, 132, 133, 134, 136, 137, 138, 141, 142, 143, 144, 153, 154, 155, 156, 157, 158, 159, 160, 161, 162, 163, 164, 166, 167, 168, 169, 170] s7 := by
    rw [e7]
    exact frs_R f6 _ _ _
  have hk7 : s7.1 100 = 14 := by
    rw [e7]
    exact hk6
  refine bk hX lkX12_ok (pc' := 38) [.aload_n 0, .bipush 6] (by decide +kernel) (And.intro trivial ?_)
  refine z_newa hX (atype := .int) (t := 2) (by decide) rfl ka_int 106 (f7 _ List.mem_cons_self) (len := 6) (by decide) (by decide) (by decide) (by decide +kernel) (by omega) (by omega) ?_
  obtain ⟨s8, e8⟩ : ∃ s, s = zNewA s7 106 2 6 := ⟨_, rfl⟩
  show zS X (zNewA s7 106 2 6) _ _ _ _ _
  rw [← e8]
  have f8 : frs [107, 108, 114, 115, 116, 117, 118, 119, 120, 121, 125, 126, 127, 130, 131, 132, 133, 134, 136, 137, 138, 141, 142, 143, 144, 153, 154, 155, 156, 157, 158, 159, 160, 161, 162, 163, 164, 166, 167, 168, 169, 170] s8 := by
    rw [e8]
    exact frs_A f7 (by decide) _ _
  have hk8 : s8.1 100 = 14 := by
    rw [e8]
    exact kA hk7 (by decide) _ _
  refine z_pR hX liX12_ok (ini := true) (fun _ => liX12_i) 26 13 5 (fun k h => h) rfl hk8 (by decide +kernel) ?_
  obtain ⟨s9, e9⟩ : ∃ s, s = pR s8 100 5 (some 106) := ⟨_, rfl⟩
  show zS X (pR s8 100 5 (some 106)) _ _ _ _ _
  rw [← e9]
  have f9 : frs [107, 108, 114, 115, 116, 117, 118, 119, 120, 121, 125, 126, 127, 130, 131, 132, 133, 134, 136, 137, 138, 141, 142, 143, 144, 153, 154, 155, 156, 157, 158, 159, 160, 161, 162, 163, 164, 166, 167, 168, 169, 170] s9 := by
    rw [e9]
    exact frs_R f8 _ _ _
  have hk9 : s9.1 100 = 14 := by
    rw [e9]
    exact hk8
  refine bk hX lkX12_ok (pc' := 46) [.aload_n 0, .bipush 6] (by decide +kernel) (And.intro trivial ?_)
  refine z_newa hX (atype := .int) (t := 2) (by decide) rfl ka_int 107 (f9 _ List.mem_cons_self) (len := 6) (by decide) (by decide) (by decide) (by decide +kernel) (by omega) (by omega) ?_
  obtain ⟨s10, e10⟩ : ∃ s, s = zNewA s9 107 2 6 := ⟨_, rfl⟩
  show zS X (zNewA s9 107 2 6) _ _ _ _ _
  rw [← e10]
  have f10 : frs [108, 114, 115, 116, 117, 118, 119, 120, 121, 125, 126, 127, 130, 131, 132, 133, 134, 136, 137, 138, 141, 142, 143, 144, 153, 154, 155, 156, 157, 158, 159, 160, 161, 162, 163, 164, 166, 167, 168, 169, 170] s10 := by
    rw [e10]
    exact frs_A f9 (by decide) _ _
  have hk10 : s10.1 100 = 14 := by
    rw [e10]
    exact kA hk9 (by decide) _ _
  refine z_pR hX liX12_ok (ini := true) (fun _ => liX12_i) 29 13 6 (fun k h => h) rfl hk10 (by decide +kernel) ?_
  obtain ⟨s11, e11⟩ : ∃ s, s = pR s10 100 6 (some 107) := ⟨_, rfl⟩
  show zS X (pR s10 100 6 (some 107)) _ _ _ _ _
  rw [← e11]
  have f11 : frs [108, 114, 115, 116, 117, 118, 119, 120, 121, 125, 126, 127, 130, 131, 132, 133, 134, 136, 137, 138, 141, 142, 143, 144, 153, 154, 155, 156, 157, 158, 159, 160, 161, 162, 163, 164, 166, 167, 168, 169, 170] s11 := by
    rw [e11]
    exact frs_R f10 _ _ _
  have hk11 : s11.1 100 = 14 := by
    rw [e11]
    exact hk10
  refine bk hX lkX12_ok (pc' := 54) [.aload_n 0, .bipush 24] (by decide +kernel) (And.intro trivial ?_)
  refine z_newa hX (atype := .int) (t := 2) (by decide) rfl ka_int 108 (f11 _ List.mem_cons_self) (len := 24) (by decide) (by decide) (by decide) (by decide +kernel) (by omega) (by omega) ?_
  obtain ⟨s12, e12⟩ : ∃ s, s = zNewA s11 108 2 24 := ⟨_, rfl⟩
  show zS X (zNewA s11 108 2 24) _ _ _ _ _
  rw [← e12]
  have f12 : frs [114, 115, 116, 117, 118, 119, 120, 121, 125, 126, 127, 130, 131, 132, 133, 134, 136, 137, 138, 141, 142, 143, 144, 153, 154, 155, 156, 157, 158, 159, 160, 161, 162, 163, 164, 166, 167, 168, 169, 170] s12 := by
    rw [e12]
    exact frs_A f11 (by decide) _ _
  have hk12 : s12.1 100 = 14 := by
    rw [e12]
    exact kA hk11 (by decide) _ _
  refine z_pR hX liX12_ok (ini := true) (fun _ => liX12_i) 32 13 7 (fun k h => h) rfl hk12 (by decide +kernel) ?_
  obtain ⟨s13, e13⟩ : ∃ s, s = pR s12 100 7 (some 108) := ⟨_, rfl⟩
  show zS X (pR s12 100 7 (some 108)) _ _ _ _ _
  rw [← e13]
  have f13 : frs [114, 115, 116, 117, 118, 119, 120, 121, 125, 126, 127, 130, 131, 132, 133, 134, 136, 137, 138, 141, 142, 143, 144, 153, 154, 155, 156, 157, 158, 159, 160, 161, 162, 163, 164, 166, 167, 168, 169, 170] s13 := by
    rw [e13]
    exact frs_R f12 _ _ _
  have hk13 : s13.1 100 = 14 := by
    rw [e13]
    exact hk12
  refine bk hX lkX12_ok (pc' := 61) [.aload_n 0, .iconst 0] (by decide +kernel) (And.intro trivial ?_)
  refine z_pI hX liX12_ok (ini := true) (fun _ => liX12_i) 35 13 8 (fun k h => h) rfl hk13 (by decide +kernel) ?_
  obtain ⟨s14, e14⟩ : ∃ s, s = pI s13 100 8 (nI 0) := ⟨_, rfl⟩
  show zS X (pI s13 100 8 (nI 0)) _ _ _ _ _
  rw [← e14]
  have f14 : frs [114, 115, 116, 117, 118, 119, 120, 121, 125, 126, 127, 130, 131, 132, 133, 134, 136, 137, 138, 141, 142, 143, 144, 153, 154, 155, 156, 157, 158, 159, 160, 161, 162, 163, 164, 166, 167, 168, 169, 170] s14 := by
    rw [e14]
    exact frs_I f13 _ _ _
  have hk14 : s14.1 100 = 14 := by
    rw [e14]
    exact hk13
  refine bk hX lkX12_ok (pc' := 66) [.aload_n 0, .iconst (Int.negSucc 0)] (by decide +kernel) (And.intro trivial ?_)
  refine z_pI hX liX12_ok (ini := true) (fun _ => liX12_i) 38 13 9 (fun k h => h) rfl hk14 (by decide +kernel) ?_
  obtain ⟨s15, e15⟩ : ∃ s, s = pI s14 100 9 (-nI 1) := ⟨_, rfl⟩
  show zS X (pI s14 100 9 (-nI 1)) _ _ _ _ _
  rw [← e15]
  have f15 : frs [114, 115, 116, 117, 118, 119, 120, 121, 125, 126, 127, 130, 131, 132, 133, 134, 136, 137, 138, 141, 142, 143, 144, 153, 154, 155, 156, 157, 158, 159, 160, 161, 162, 163, 164, 166, 167, 168, 169, 170] s15 := by
    rw [e15]
    exact frs_I f14 _ _ _
  have hk15 : s15.1 100 = 14 := by
    rw [e15]
    exact hk14
  refine bk hX lkX12_ok (pc' := 71) [.aload_n 0, .iconst 0] (by decide +kernel) (And.intro trivial ?_)
  refine z_pI hX liX12_ok (ini := true) (fun _ => liX12_i) 41 13 10 (fun k h => h) rfl hk15 (by decide +kernel) ?_
  obtain ⟨s16, e16⟩ : ∃ s, s = pI s15 100 10 (nI 0) := ⟨_, rfl⟩
  show zS X (pI s15 100 10 (nI 0)) _ _ _ _ _
  rw [← e16]
  have f16 : frs [114, 115, 116, 117, 118, 119, 120, 121, 125, 126, 127, 130, 131, 132, 133, 134, 136, 137, 138, 141, 142, 143, 144, 153, 154, 155, 156, 157, 158, 159, 160, 161, 162, 163, 164, 166, 167, 168, 169, 170] s16 := by
    rw [e16]
    exact frs_I f15 _ _ _
  have hk16 : s16.1 100 = 14 := by
    rw [e16]
    exact hk15
  refine bk hX lkX12_ok (pc' := 76) [.aload_n 0, .iconst 0] (by decide +kernel) (And.intro trivial ?_)
  refine z_pI hX liX12_ok (ini := true) (fun _ => liX12_i) 44 13 11 (fun k h => h) rfl hk16 (by decide +kernel) ?_
  obtain ⟨s17, e17⟩ : ∃ s, s = pI s16 100 11 (nI 0) := ⟨_, rfl⟩
  show zS X (pI s16 100 11 (nI 0)) _ _ _ _ _
  rw [← e17]
  have f17 : frs [114, 115, 116, 117, 118, 119, 120, 121, 125, 126, 127, 130, 131, 132, 133, 134, 136, 137, 138, 141, 142, 143, 144, 153, 154, 155, 156, 157, 158, 159, 160, 161, 162, 163, 164, 166, 167, 168, 169, 170] s17 := by
    rw [e17]
    exact frs_I f16 _ _ _
  have hk17 : s17.1 100 = 14 := by
    rw [e17]
    exact hk16
  refine bk hX lkX12_ok (pc' := 81) [.aload_n 0, .iconst 0] (by decide +kernel) (And.intro trivial ?_)
  refine z_pI hX liX12_ok (ini := true) (fun _ => liX12_i) 47 13 12 (fun k h => h) rfl hk17 (by decide +kernel) ?_
  obtain ⟨s18, e18⟩ : ∃ s, s = pI s17 100 12 (nI 0) := ⟨_, rfl⟩
  show zS X (pI s17 100 12 (nI 0)) _ _ _ _ _
  rw [← e18]
  have f18 : frs [114, 115, 116, 117, 118, 119, 120, 121, 125, 126, 127, 130, 131, 132, 133, 134, 136, 137, 138, 141, 142, 143, 144, 153, 154, 155, 156, 157, 158, 159, 160, 161, 162, 163, 164, 166, 167, 168, 169, 170] s18 := by
    rw [e18]
    exact frs_I f17 _ _ _
  have hk18 : s18.1 100 = 14 := by
    rw [e18]
    exact hk17
  refine bk hX lkX12_ok (pc' := 87) [.aload_n 0, .bipush 100] (by decide +kernel) (And.intro trivial ?_)
  refine z_newa hX (atype := .int) (t := 2) (by decide) rfl ka_int 114 (f18 _ List.mem_cons_self) (len := 100) (by decide) (by decide) (by decide) (by decide +kernel) (by omega) (by omega) ?_
  obtain ⟨s19, e19⟩ : ∃ s, s = zNewA s18 114 2 100 := ⟨_, rfl⟩
  show zS X (zNewA s18 114 2 100) _ _ _ _ _
  rw [← e19]
  have f19 : frs [115, 116, 117, 118, 119, 120, 121, 125, 126, 127, 130, 131, 132, 133, 134, 136, 137, 138, 141, 142, 143, 144, 153, 154, 155, 156, 157, 158, 159, 160, 161, 162, 163, 164, 166, 167, 168, 169, 170] s19 := by
    rw [e19]
    exact frs_A f18 (by decide) _ _
  have hk19 : s19.1 100 = 14 := by
    rw [e19]
    exact kA hk18 (by decide) _ _
  refine z_pR hX liX12_ok (ini := true) (fun _ => liX12_i) 50 13 13 (fun k h => h) rfl hk19 (by decide +kernel) ?_
  obtain ⟨s20, e20⟩ : ∃ s, s = pR s19 100 13 (some 114) := ⟨_, rfl⟩
  show zS X (pR s19 100 13 (some 114)) _ _ _ _ _
  rw [← e20]
  have f20 : frs [115, 116, 117, 118, 119, 120, 121, 125, 126, 127, 130, 131, 132, 133, 134, 136, 137, 138, 141, 142, 143, 144, 153, 154, 155, 156, 157, 158, 159, 160, 161, 162, 163, 164, 166, 167, 168, 169, 170] s20 := by
    rw [e20]
    exact frs_R f19 _ _ _
  have hk20 : s20.1 100 = 14 := by
    rw [e20]
    exact hk19
  refine bk hX lkX12_ok (pc' := 95) [.aload_n 0, .bipush 6] (by decide +kernel) (And.intro trivial ?_)
  refine z_newa hX (atype := .int) (t := 2) (by decide) rfl ka_int 115 (f20 _ List.mem_cons_self) (len := 6) (by decide) (by decide) (by decide) (by decide +kernel) (by omega) (by omega) ?_
  obtain ⟨s21, e21⟩ : ∃ s, s = zNewA s20 115 2 6 := ⟨_, rfl⟩
  show zS X (zNewA s20 115 2 6) _ _ _ _ _
  rw [← e21]
  have f21 : frs [116, 117, 118, 119, 120, 121, 125, 126, 127, 130, 131, 132, 133, 134, 136, 137, 138, 141, 142, 143, 144, 153, 154, 155, 156, 157, 158, 159, 160, 161, 162, 163, 164, 166, 167, 168, 169, 170] s21 := by
    rw [e21]
    exact frs_A f20 (by decide) _ _
  have hk21 : s21.1 100 = 14 := by
    rw [e21]
    exact kA hk20 (by decide) _ _
  refine z_pR hX liX12_ok (ini := true) (fun _ => liX12_i) 53 13 14 (fun k h => h) rfl hk21 (by decide +kernel) ?_
  obtain ⟨s22, e22⟩ : ∃ s, s = pR s21 100 14 (some 115) := ⟨_, rfl⟩
  show zS X (pR s21 100 14 (some 115)) _ _ _ _ _
  rw [← e22]
  have f22 : frs [116, 117, 118, 119, 120, 121, 125, 126, 127, 130, 131, 132, 133, 134, 136, 137, 138, 141, 142, 143, 144, 153, 154, 155, 156, 157, 158, 159, 160, 161, 162, 163, 164, 166, 167, 168, 169, 170] s22 := by
    rw [e22]
    exact frs_R f21 _ _ _
  have hk22 : s22.1 100 = 14 := by
    rw [e22]
    exact hk21
  refine bk hX lkX12_ok (pc' := 103) [.aload_n 0, .bipush 60] (by decide +kernel) (And.intro trivial ?_)
  refine z_newa hX (atype := .int) (t := 2) (by decide) rfl ka_int 116 (f22 _ List.mem_cons_self) (len := 60) (by decide) (by decide) (by decide) (by decide +kernel) (by omega) (by omega) ?_
  obtain ⟨s23, e23⟩ : ∃ s, s = zNewA s22 116 2 60 := ⟨_, rfl⟩
  show zS X (zNewA s22 116 2 60) _ _ _ _ _
  rw [← e23]
  have f23 : frs [117, 118, 119, 120, 121, 125, 126, 127, 130, 131, 132, 133, 134, 136, 137, 138, 141, 142, 143, 144, 153, 154, 155, 156, 157, 158, 159, 160, 161, 162, 163, 164, 166, 167, 168, 169, 170] s23 := by
    rw [e23]
    exact frs_A f22 (by decide) _ _
  have hk23 : s23.1 100 = 14 := by
    rw [e23]
    exact kA hk22 (by decide) _ _
  refine z_pR hX liX12_ok (ini := true) (fun _ => liX12_i) 56 13 15 (fun k h => h) rfl hk23 (by decide +kernel) ?_
  obtain ⟨s24, e24⟩ : ∃ s, s = pR s23 100 15 (some 116) := ⟨_, rfl⟩
  show zS X (pR s23 100 15 (some 116)) _ _ _ _ _
  rw [← e24]
  have f24 : frs [117, 118, 119, 120, 121, 125, 126, 127, 130, 131, 132, 133, 134, 136, 137, 138, 141, 142, 143, 144, 153, 154, 155, 156, 157, 158, 159, 160, 161, 162, 163, 164, 166, 167, 168, 169, 170] s24 := by
    rw [e24]
    exact frs_R f23 _ _ _
  have hk24 : s24.1 100 = 14 := by
    rw [e24]
    exact hk23
  refine bk hX lkX12_ok (pc' := 111) [.aload_n 0, .bipush 60] (by decide +kernel) (And.intro trivial ?_)
  refine z_newa hX (atype := .int) (t := 2) (by decide) rfl ka_int 117 (f24 _ List.mem_cons_self) (len := 60) (by decide) (by decide) (by decide) (by decide +kernel) (by omega) (by omega) ?_
  obtain ⟨s25, e25⟩ : ∃ s, s = zNewA s24 117 2 60 := ⟨_, rfl⟩
  show zS X (zNewA s24 117 2 60) _ _ _ _ _
  rw [← e25]
  have f25 : frs [118, 119, 120, 121, 125, 126, 127, 130, 131, 132, 133, 134, 136, 137, 138, 141, 142, 143, 144, 153, 154, 155, 156, 157, 158, 159, 160, 161, 162, 163, 164, 166, 167, 168, 169, 170] s25 := by
    rw [e25]
    exact frs_A f24 (by decide) _ _
  have hk25 : s25.1 100 = 14 := by
    rw [e25]
    exact kA hk24 (by decide) _ _
  refine z_pR hX liX12_ok (ini := true) (fun _ => liX12_i) 59 13 16 (fun k h => h) rfl hk25 (by decide +kernel) ?_
  obtain ⟨s26, e26⟩ : ∃ s, s = pR s25 100 16 (some 117) := ⟨_, rfl⟩
  show zS X (pR s25 100 16 (some 117)) _ _ _ _ _
  rw [← e26]
  have f26 : frs [118, 119, 120, 121, 125, 126, 127, 130, 131, 132, 133, 134, 136, 137, 138, 141, 142, 143, 144, 153, 154, 155, 156, 157, 158, 159, 160, 161, 162, 163, 164, 166, 167, 168, 169, 170] s26 := by
    rw [e26]
    exact frs_R f25 _ _ _
  have hk26 : s26.1 100 = 14 := by
    rw [e26]
    exact hk25
  refine bk hX lkX12_ok (pc' := 119) [.aload_n 0, .bipush 60] (by decide +kernel) (And.intro trivial ?_)
  refine z_newa hX (atype := .int) (t := 2) (by decide) rfl ka_int 118 (f26 _ List.mem_cons_self) (len := 60) (by decide) (by decide) (by decide) (by decide +kernel) (by omega) (by omega) ?_
  obtain ⟨s27, e27⟩ : ∃ s, s = zNewA s26 118 2 60 := ⟨_, rfl⟩
  show zS X (zNewA s26 118 2 60) _ _ _ _ _
  rw [← e27]
  have f27 : frs [119, 120, 121, 125, 126, 127, 130, 131, 132, 133, 134, 136, 137, 138, 141, 142, 143, 144, 153, 154, 155, 156, 157, 158, 159, 160, 161, 162, 163, 164, 166, 167, 168, 169, 170] s27 := by
    rw [e27]
    exact frs_A f26 (by decide) _ _
  have hk27 : s27.1 100 = 14 := by
    rw [e27]
    exact kA hk26 (by decide) _ _
  refine z_pR hX liX12_ok (ini := true) (fun _ => liX12_i) 62 13 17 (fun k h => h) rfl hk27 (by decide +kernel) ?_
  obtain ⟨s28, e28⟩ : ∃ s, s = pR s27 100 17 (some 118) := ⟨_, rfl⟩
  show zS X (pR s27 100 17 (some 118)) _ _ _ _ _
  rw [← e28]
  have f28 : frs [119, 120, 121, 125, 126, 127, 130, 131, 132, 133, 134, 136, 137, 138, 141, 142, 143, 144, 153, 154, 155, 156, 157, 158, 159, 160, 161, 162, 163, 164, 166, 167, 168, 169, 170] s28 := by
    rw [e28]
    exact frs_R f27 _ _ _
  have hk28 : s28.1 100 = 14 := by
    rw [e28]
    exact hk27
  refine bk hX lkX12_ok (pc' := 127) [.aload_n 0, .bipush 60] (by decide +kernel) (And.intro trivial ?_)
  refine z_newa hX (atype := .int) (t := 2) (by decide) rfl ka_int 119 (f28 _ List.mem_cons_self) (len := 60) (by decide) (by decide) (by decide) (by decide +kernel) (by omega) (by omega) ?_
  obtain ⟨s29, e29⟩ : ∃ s, s = zNewA s28 119 2 60 := ⟨_, rfl⟩
  show zS X (zNewA s28 119 2 60) _ _ _ _ _
  rw [← e29]
  have f29 : frs [120, 121, 125, 126, 127, 130, 131, 132, 133, 134, 136, 137, 138, 141, 142, 143, 144, 153, 154, 155, 156, 157, 158, 159, 160, 161, 162, 163, 164, 166, 167, 168, 169, 170] s29 := by
    rw [e29]
    exact frs_A f28 (by decide) _ _
  have hk29 : s29.1 100 = 14 := by
    rw [e29]
    exact kA hk28 (by decide) _ _
  refine z_pR hX liX12_ok (ini := true) (fun _ => liX12_i) 65 13 18 (fun k h => h) rfl hk29 (by decide +kernel) ?_
  obtain ⟨s30, e30⟩ : ∃ s, s = pR s29 100 18 (some 119) := ⟨_, rfl⟩
  show zS X (pR s29 100 18 (some 119)) _ _ _ _ _
  rw [← e30]
  have f30 : frs [120, 121, 125, 126, 127, 130, 131, 132, 133, 134, 136, 137, 138, 141, 142, 143, 144, 153, 154, 155, 156, 157, 158, 159, 160, 161, 162, 163, 164, 166, 167, 168, 169, 170] s30 := by
    rw [e30]
    exact frs_R f29 _ _ _
  have hk30 : s30.1 100 = 14 := by
    rw [e30]
    exact hk29
  refine bk hX lkX12_ok (pc' := 136) [.aload_n 0, .sipush 600] (by decide +kernel) (And.intro trivial ?_)
  refine z_newa hX (atype := .int) (t := 2) (by decide) rfl ka_int 120 (f30 _ List.mem_cons_self) (len := 600) (by decide) (by decide) (by decide) (by decide +kernel) (by omega) (by omega) ?_
  obtain ⟨s31, e31⟩ : ∃ s, s = zNewA s30 120 2 600 := ⟨_, rfl⟩
  show zS X (zNewA s30 120 2 600) _ _ _ _ _
  rw [← e31]
  have f31 : frs [121, 125, 126, 127, 130, 131, 132, 133, 134, 136, 137, 138, 141, 142, 143, 144, 153, 154, 155, 156, 157, 158, 159, 160, 161, 162, 163, 164, 166, 167, 168, 169, 170] s31 := by
    rw [e31]
    exact frs_A f30 (by decide) _ _
  have hk31 : s31.1 100 = 14 := by
    rw [e31]
    exact kA hk30 (by decide) _ _
  refine z_pR hX liX12_ok (ini := true) (fun _ => liX12_i) 68 13 19 (fun k h => h) rfl hk31 (by decide +kernel) ?_
  obtain ⟨s32, e32⟩ : ∃ s, s = pR s31 100 19 (some 120) := ⟨_, rfl⟩
  show zS X (pR s31 100 19 (some 120)) _ _ _ _ _
  rw [← e32]
  have f32 : frs [121, 125, 126, 127, 130, 131, 132, 133, 134, 136, 137, 138, 141, 142, 143, 144, 153, 154, 155, 156, 157, 158, 159, 160, 161, 162, 163, 164, 166, 167, 168, 169, 170] s32 := by
    rw [e32]
    exact frs_R f31 _ _ _
  have hk32 : s32.1 100 = 14 := by
    rw [e32]
    exact hk31
  refine bk hX lkX12_ok (pc' := 144) [.aload_n 0, .bipush 101] (by decide +kernel) (And.intro trivial ?_)
  refine z_newa hX (atype := .int) (t := 2) (by decide) rfl ka_int 121 (f32 _ List.mem_cons_self) (len := 101) (by decide) (by decide) (by decide) (by decide +kernel) (by omega) (by omega) ?_
  obtain ⟨s33, e33⟩ : ∃ s, s = zNewA s32 121 2 101 := ⟨_, rfl⟩
  show zS X (zNewA s32 121 2 101) _ _ _ _ _
  rw [← e33]
  have f33 : frs [125, 126, 127, 130, 131, 132, 133, 134, 136, 137, 138, 141, 142, 143, 144, 153, 154, 155, 156, 157, 158, 159, 160, 161, 162, 163, 164, 166, 167, 168, 169, 170] s33 := by
    rw [e33]
    exact frs_A f32 (by decide) _ _
  have hk33 : s33.1 100 = 14 := by
    rw [e33]
    exact kA hk32 (by decide) _ _
  refine z_pR hX liX12_ok (ini := true) (fun _ => liX12_i) 71 13 20 (fun k h => h) rfl hk33 (by decide +kernel) ?_
  obtain ⟨s34, e34⟩ : ∃ s, s = pR s33 100 20 (some 121) := ⟨_, rfl⟩
  show zS X (pR s33 100 20 (some 121)) _ _ _ _ _
  rw [← e34]
  have f34 : frs [125, 126, 127, 130, 131, 132, 133, 134, 136, 137, 138, 141, 142, 143, 144, 153, 154, 155, 156, 157, 158, 159, 160, 161, 162, 163, 164, 166, 167, 168, 169, 170] s34 := by
    rw [e34]
    exact frs_R f33 _ _ _
  have hk34 : s34.1 100 = 14 := by
    rw [e34]
    exact hk33
  refine bk hX lkX12_ok (pc' := 151) [.aload_n 0, .iconst 0] (by decide +kernel) (And.intro trivial ?_)
  refine z_pI hX liX12_ok (ini := true) (fun _ => liX12_i) 74 13 21 (fun k h => h) rfl hk34 (by decide +kernel) ?_
  obtain ⟨s35, e35⟩ : ∃ s, s = pI s34 100 21 (nI 0) := ⟨_, rfl⟩
  show zS X (pI s34 100 21 (nI 0)) _ _ _ _ _
  rw [← e35]
  have f35 : frs [125, 126, 127, 130, 131, 132, 133, 134, 136, 137, 138, 141, 142, 143, 144, 153, 154, 155, 156, 157, 158, 159, 160, 161, 162, 163, 164, 166, 167, 168, 169, 170] s35 := by
    rw [e35]
    exact frs_I f34 _ _ _
  have hk35 : s35.1 100 = 14 := by
    rw [e35]
    exact hk34
  refine bk hX lkX12_ok (pc' := 156) [.aload_n 0, .iconst 0] (by decide +kernel) (And.intro trivial ?_)
  refine z_pI hX liX12_ok (ini := true) (fun _ => liX12_i) 77 13 22 (fun k h => h) rfl hk35 (by decide +kernel) ?_
  obtain ⟨s36, e36⟩ : ∃ s, s = pI s35 100 22 (nI 0) := ⟨_, rfl⟩
  show zS X (pI s35 100 22 (nI 0)) _ _ _ _ _
  rw [← e36]
  have f36 : frs [125, 126, 127, 130, 131, 132, 133, 134, 136, 137, 138, 141, 142, 143, 144, 153, 154, 155, 156, 157, 158, 159, 160, 161, 162, 163, 164, 166, 167, 168, 169, 170] s36 := by
    rw [e36]
    exact frs_I f35 _ _ _
  have hk36 : s36.1 100 = 14 := by
    rw [e36]
    exact hk35
  refine bk hX lkX12_ok (pc' := 161) [.aload_n 0, .iconst 0] (by decide +kernel) (And.intro trivial ?_)
  refine z_pI hX liX12_ok (ini := true) (fun _ => liX12_i) 80 13 23 (fun k h => h) rfl hk36 (by decide +kernel) ?_
  obtain ⟨s37, e37⟩ : ∃ s, s = pI s36 100 23 (nI 0) := ⟨_, rfl⟩
  show zS X (pI s36 100 23 (nI 0)) _ _ _ _ _
  rw [← e37]
  have f37 : frs [125, 126, 127, 130, 131, 132, 133, 134, 136, 137, 138, 141, 142, 143, 144, 153, 154, 155, 156, 157, 158, 159, 160, 161, 162, 163, 164, 166, 167, 168, 169, 170] s37 := by
    rw [e37]
    exact frs_I f36 _ _ _
  have hk37 : s37.1 100 = 14 := by
    rw [e37]
    exact hk36
  refine bk hX lkX12_ok (pc' := 167) [.aload_n 0, .bipush 13] (by decide +kernel) (And.intro trivial ?_)
  refine z_newa hX (atype := .int) (t := 2) (by decide) rfl ka_int 125 (f37 _ List.mem_cons_self) (len := 13) (by decide) (by decide) (by decide) (by decide +kernel) (by omega) (by omega) ?_
  obtain ⟨s38, e38⟩ : ∃ s, s = zNewA s37 125 2 13 := ⟨_, rfl⟩
  show zS X (zNewA s37 125 2 13) _ _ _ _ _
  rw [← e38]
  have f38 : frs [126, 127, 130, 131, 132, 133, 134, 136, 137, 138, 141, 142, 143, 144, 153, 154, 155, 156, 157, 158, 159, 160, 161, 162, 163, 164, 166, 167, 168, 169, 170] s38 := by
    rw [e38]
    exact frs_A f37 (by decide) _ _
  have hk38 : s38.1 100 = 14 := by
    rw [e38]
    exact kA hk37 (by decide) _ _
  have ha38 : s38.1 125 = 22 := by
    rw [e38]
    exact kA1 _ _ _ _
  have hn38 : s38.2.1 125 = 13 := by
    rw [e38]
    exact nA1 _ _ _ _
  refine bk hX lkX12_ok (pc' := 173) [.dup, .iconst 0, .bipush 103] (by decide +kernel) (And.intro trivial ?_)
  refine z_iast hX liX12_ok ha38 (by rw [hn38]; exact vp_in_nI (by decide) (by decide)) (by decide +kernel) ?_
  obtain ⟨s39, e39⟩ : ∃ s, s = pI s38 125 0 (nI 103) := ⟨_, rfl⟩
  show zS X (pI s38 125 0 (nI 103)) _ _ _ _ _
  rw [← e39]
  have f39 : frs [126, 127, 130, 131, 132, 133, 134, 136, 137, 138, 141, 142, 143, 144, 153, 154, 155, 156, 157, 158, 159, 160, 161, 162, 163, 164, 166, 167, 168, 169, 170] s39 := by
    rw [e39]
    exact frs_I f38 _ _ _
  have hk39 : s39.1 100 = 14 := by
    rw [e39]
    exact hk38
  have ha39 : s39.1 125 = 22 := by
    rw [e39]
    exact ha38
  have hn39 : s39.2.1 125 = 13 := by
    rw [e39]
    exact hn38
  refine bk hX lkX12_ok (pc' := 178) [.dup, .iconst 1, .bipush 108] (by decide +kernel) (And.intro trivial ?_)
  refine z_iast hX liX12_ok ha39 (by rw [hn39]; exact vp_in_nI (by decide) (by decide)) (by decide +kernel) ?_
  obtain ⟨s40, e40⟩ : ∃ s, s = pI s39 125 1 (nI 108) := ⟨_, rfl⟩
  show zS X (pI s39 125 1 (nI 108)) _ _ _ _ _
  rw [← e40]
  have f40 : frs [126, 127, 130, 131, 132, 133, 134, 136, 137, 138, 141, 142, 143, 144, 153, 154, 155, 156, 157, 158, 159, 160, 161, 162, 163, 164, 166, 167, 168, 169, 170] s40 := by
    rw [e40]
    exact frs_I f39 _ _ _
  have hk40 : s40.1 100 = 14 := by
    rw [e40]
    exact hk39
  have ha40 : s40.1 125 = 22 := by
    rw [e40]
    exact ha39
  have hn40 : s40.2.1 125 = 13 := by
    rw [e40]
    exact hn39
  refine bk hX lkX12_ok (pc' := 183) [.dup, .iconst 2, .bipush 97] (by decide +kernel) (And.intro trivial ?_)
  refine z_iast hX liX12_ok ha40 (by rw [hn40]; exact vp_in_nI (by decide) (by decide)) (by decide +kernel) ?_
  obtain ⟨s41, e41⟩ : ∃ s, s = pI s40 125 2 (nI 97) := ⟨_, rfl⟩
  show zS X (pI s40 125 2 (nI 97)) _ _ _ _ _
  rw [← e41]
  have f41 : frs [126, 127, 130, 131, 132, 133, 134, 136, 137, 138, 141, 142, 143, 144, 153, 154, 155, 156, 157, 158, 159, 160, 161, 162, 163, 164, 166, 167, 168, 169, 170] s41 := by
    rw [e41]
    exact frs_I f40 _ _ _
  have hk41 : s41.1 100 = 14 := by
    rw [e41]
    exact hk40
  have ha41 : s41.1 125 = 22 := by
    rw [e41]
    exact ha40
  have hn41 : s41.2.1 125 = 13 := by
    rw [e41]
    exact hn40
  refine bk hX lkX12_ok (pc' := 188) [.dup, .iconst 3, .bipush 100] (by decide +kernel) (And.intro trivial ?_)
  refine z_iast hX liX12_ok ha41 (by rw [hn41]; exact vp_in_nI (by decide) (by decide)) (by decide +kernel) ?_
  obtain ⟨s42, e42⟩ : ∃ s, s = pI s41 125 3 (nI 100) := ⟨_, rfl⟩
  show zS X (pI s41 125 3 (nI 100)) _ _ _ _ _
  rw [← e42]
  have f42 : frs [126, 127, 130, 131, 132, 133, 134, 136, 137, 138, 141, 142, 143, 144, 153, 154, 155, 156, 157, 158, 159, 160, 161, 162, 163, 164, 166, 167, 168, 169, 170] s42 := by
    rw [e42]
    exact frs_I f41 _ _ _
  have hk42 : s42.1 100 = 14 := by
    rw [e42]
    exact hk41
  have ha42 : s42.1 125 = 22 := by
    rw [e42]
    exact ha41
  have hn42 : s42.2.1 125 = 13 := by
    rw [e42]
    exact hn41
  refine bk hX lkX12_ok (pc' := 193) [.dup, .iconst 4, .bipush 115] (by decide +kernel) (And.intro trivial ?_)
  refine z_iast hX liX12_ok ha42 (by rw [hn42]; exact vp_in_nI (by decide) (by decide)) (by decide +kernel) ?_
  obtain ⟨s43, e43⟩ : ∃ s, s = pI s42 125 4 (nI 115) := ⟨_, rfl⟩
  show zS X (pI s42 125 4 (nI 115)) _ _ _ _ _
  rw [← e43]
  have f43 : frs [126, 127, 130, 131, 132, 133, 134, 136, 137, 138, 141, 142, 143, 144, 153, 154, 155, 156, 157, 158, 159, 160, 161, 162, 163, 164, 166, 167, 168, 169, 170] s43 := by
    rw [e43]
    exact frs_I f42 _ _ _
  have hk43 : s43.1 100 = 14 := by
    rw [e43]
    exact hk42
  have ha43 : s43.1 125 = 22 := by
    rw [e43]
    exact ha42
  have hn43 : s43.2.1 125 = 13 := by
    rw [e43]
    exact hn42
  refine bk hX lkX12_ok (pc' := 198) [.dup, .iconst 5, .bipush 111] (by decide +kernel) (And.intro trivial ?_)
  refine z_iast hX liX12_ok ha43 (by rw [hn43]; exact vp_in_nI (by decide) (by decide)) (by decide +kernel) ?_
  obtain ⟨s44, e44⟩ : ∃ s, s = pI s43 125 5 (nI 111) := ⟨_, rfl⟩
  show zS X (pI s43 125 5 (nI 111)) _ _ _ _ _
  rw [← e44]
  have f44 : frs [126, 127, 130, 131, 132, 133, 134, 136, 137, 138, 141, 142, 143, 144, 153, 154, 155, 156, 157, 158, 159, 160, 161, 162, 163, 164, 166, 167, 168, 169, 170] s44 := by
    rw [e44]
    exact frs_I f43 _ _ _
  have hk44 : s44.1 100 = 14 := by
    rw [e44]
    exact hk43
  have ha44 : s44.1 125 = 22 := by
    rw [e44]
    exact ha43
  have hn44 : s44.2.1 125 = 13 := by
    rw [e44]
    exact hn43
  refine bk hX lkX12_ok (pc' := 204) [.dup, .bipush 6, .bipush 117] (by decide +kernel) (And.intro trivial ?_)
  refine z_iast hX liX12_ok ha44 (by rw [hn44]; exact vp_in_nI (by decide) (by decide)) (by decide +kernel) ?_
  obtain ⟨s45, e45⟩ : ∃ s, s = pI s44 125 6 (nI 117) := ⟨_, rfl⟩
  show zS X (pI s44 125 6 (nI 117)) _ _ _ _ _
  rw [← e45]
  have f45 : frs [126, 127, 130, 131, 132, 133, 134, 136, 137, 138, 141, 142, 143, 144, 153, 154, 155, 156, 157, 158, 159, 160, 161, 162, 163, 164, 166, 167, 168, 169, 170] s45 := by
    rw [e45]
    exact frs_I f44 _ _ _
  have hk45 : s45.1 100 = 14 := by
    rw [e45]
    exact hk44
  have ha45 : s45.1 125 = 22 := by
    rw [e45]
    exact ha44
  have hn45 : s45.2.1 125 = 13 := by
    rw [e45]
    exact hn44
  refine bk hX lkX12_ok (pc' := 210) [.dup, .bipush 7, .bipush 114] (by decide +kernel) (And.intro trivial ?_)
  refine z_iast hX liX12_ok ha45 (by rw [hn45]; exact vp_in_nI (by decide) (by decide)) (by decide +kernel) ?_
  obtain ⟨s46, e46⟩ : ∃ s, s = pI s45 125 7 (nI 114) := ⟨_, rfl⟩
  show zS X (pI s45 125 7 (nI 114)) _ _ _ _ _
  rw [← e46]
  have f46 : frs [126, 127, 130, 131, 132, 133, 134, 136, 137, 138, 141, 142, 143, 144, 153, 154, 155, 156, 157, 158, 159, 160, 161, 162, 163, 164, 166, 167, 168, 169, 170] s46 := by
    rw [e46]
    exact frs_I f45 _ _ _
  have hk46 : s46.1 100 = 14 := by
    rw [e46]
    exact hk45
  have ha46 : s46.1 125 = 22 := by
    rw [e46]
    exact ha45
  have hn46 : s46.2.1 125 = 13 := by
    rw [e46]
    exact hn45
  refine bk hX lkX12_ok (pc' := 216) [.dup, .bipush 8, .bipush 114] (by decide +kernel) (And.intro trivial ?_)
  refine z_iast hX liX12_ok ha46 (by rw [hn46]; exact vp_in_nI (by decide) (by decide)) (by decide +kernel) ?_
  obtain ⟨s47, e47⟩ : ∃ s, s = pI s46 125 8 (nI 114) := ⟨_, rfl⟩
  show zS X (pI s46 125 8 (nI 114)) _ _ _ _ _
  rw [← e47]
  have f47 : frs [126, 127, 130, 131, 132, 133, 134, 136, 137, 138, 141, 142, 143, 144, 153, 154, 155, 156, 157, 158, 159, 160, 161, 162, 163, 164, 166, 167, 168, 169, 170] s47 := by
    rw [e47]
    exact frs_I f46 _ _ _
  have hk47 : s47.1 100 = 14 := by
    rw [e47]
    exact hk46
  have ha47 : s47.1 125 = 22 := by
    rw [e47]
    exact ha46
  have hn47 : s47.2.1 125 = 13 := by
    rw [e47]
    exact hn46
  refine bk hX lkX12_ok (pc' := 222) [.dup, .bipush 9, .bipush 111] (by decide +kernel) (And.intro trivial ?_)
  refine z_iast hX liX12_ok ha47 (by rw [hn47]; exact vp_in_nI (by decide) (by decide)) (by decide +kernel) ?_
  obtain ⟨s48, e48⟩ : ∃ s, s = pI s47 125 9 (nI 111) := ⟨_, rfl⟩
  show zS X (pI s47 125 9 (nI 111)) _ _ _ _ _
  rw [← e48]
  have f48 : frs [126, 127, 130, 131, 132, 133, 134, 136, 137, 138, 141, 142, 143, 144, 153, 154, 155, 156, 157, 158, 159, 160, 161, 162, 163, 164, 166, 167, 168, 169, 170] s48 := by
    rw [e48]
    exact frs_I f47 _ _ _
  have hk48 : s48.1 100 = 14 := by
    rw [e48]
    exact hk47
  have ha48 : s48.1 125 = 22 := by
    rw [e48]
    exact ha47
  have hn48 : s48.2.1 125 = 13 := by
    rw [e48]
    exact hn47
  refine bk hX lkX12_ok (pc' := 228) [.dup, .bipush 10, .bipush 117] (by decide +kernel) (And.intro trivial ?_)
  refine z_iast hX liX12_ok ha48 (by rw [hn48]; exact vp_in_nI (by decide) (by decide)) (by decide +kernel) ?_
  obtain ⟨s49, e49⟩ : ∃ s, s = pI s48 125 10 (nI 117) := ⟨_, rfl⟩
  show zS X (pI s48 125 10 (nI 117)) _ _ _ _ _
  rw [← e49]
  have f49 : frs [126, 127, 130, 131, 132, 133, 134, 136, 137, 138, 141, 142, 143, 144, 153, 154, 155, 156, 157, 158, 159, 160, 161, 162, 163, 164, 166, 167, 168, 169, 170] s49 := by
    rw [e49]
    exact frs_I f48 _ _ _
  have hk49 : s49.1 100 = 14 := by
    rw [e49]
    exact hk48
  have ha49 : s49.1 125 = 22 := by
    rw [e49]
    exact ha48
  have hn49 : s49.2.1 125 = 13 := by
    rw [e49]
    exact hn48
  refine bk hX lkX12_ok (pc' := 234) [.dup, .bipush 11, .bipush 110] (by decide +kernel) (And.intro trivial ?_)
  refine z_iast hX liX12_ok ha49 (by rw [hn49]; exact vp_in_nI (by decide) (by decide)) (by decide +kernel) ?_
  obtain ⟨s50, e50⟩ : ∃ s, s = pI s49 125 11 (nI 110) := ⟨_, rfl⟩
  show zS X (pI s49 125 11 (nI 110)) _ _ _ _ _
  rw [← e50]
  have f50 : frs [126, 127, 130, 131, 132, 133, 134, 136, 137, 138, 141, 142, 143, 144, 153, 154, 155, 156, 157, 158, 159, 160, 161, 162, 163, 164, 166, 167, 168, 169, 170] s50 := by
    rw [e50]
    exact frs_I f49 _ _ _
  have hk50 : s50.1 100 = 14 := by
    rw [e50]
    exact hk49
  have ha50 : s50.1 125 = 22 := by
    rw [e50]
    exact ha49
  have hn50 : s50.2.1 125 = 13 := by
    rw [e50]
    exact hn49
  refine bk hX lkX12_ok (pc' := 240) [.dup, .bipush 12, .bipush 100] (by decide +kernel) (And.intro trivial ?_)
  refine z_iast hX liX12_ok ha50 (by rw [hn50]; exact vp_in_nI (by decide) (by decide)) (by decide +kernel) ?_
  obtain ⟨s51, e51⟩ : ∃ s, s = pI s50 125 12 (nI 100) := ⟨_, rfl⟩
  show zS X (pI s50 125 12 (nI 100)) _ _ _ _ _
  rw [← e51]
  have f51 : frs [126, 127, 130, 131, 132, 133, 134, 136, 137, 138, 141, 142, 143, 144, 153, 154, 155, 156, 157, 158, 159, 160, 161, 162, 163, 164, 166, 167, 168, 169, 170] s51 := by
    rw [e51]
    exact frs_I f50 _ _ _
  have hk51 : s51.1 100 = 14 := by
    rw [e51]
    exact hk50
  have ha51 : s51.1 125 = 22 := by
    rw [e51]
    exact ha50
  have hn51 : s51.2.1 125 = 13 := by
    rw [e51]
    exact hn50
  refine z_pR hX liX12_ok (ini := true) (fun _ => liX12_i) 83 13 24 (fun k h => h) rfl hk51 (by decide +kernel) ?_
  obtain ⟨s52, e52⟩ : ∃ s, s = pR s51 100 24 (some 125) := ⟨_, rfl⟩
  show zS X (pR s51 100 24 (some 125)) _ _ _ _ _
  rw [← e52]
  have f52 : frs [126, 127, 130, 131, 132, 133, 134, 136, 137, 138, 141, 142, 143, 144, 153, 154, 155, 156, 157, 158, 159, 160, 161, 162, 163, 164, 166, 167, 168, 169, 170] s52 := by
    rw [e52]
    exact frs_R f51 _ _ _
  have hk52 : s52.1 100 = 14 := by
    rw [e52]
    exact hk51
  refine bk hX lkX12_ok (pc' := 247) [.aload_n 0, .bipush 100] (by decide +kernel) (And.intro trivial ?_)
  refine z_newa hX (atype := .boolean) (t := 4) (by decide) rfl ka_boolean 126 (f52 _ List.mem_cons_self) (len := 100) (by decide) (by decide) (by decide) (by decide +kernel) (by omega) (by omega) ?_
  obtain ⟨s53, e53⟩ : ∃ s, s = zNewA s52 126 4 100 := ⟨_, rfl⟩
  show zS X (zNewA s52 126 4 100) _ _ _ _ _
  rw [← e53]
  have f53 : frs [127, 130, 131, 132, 133, 134, 136, 137, 138, 141, 142, 143, 144, 153, 154, 155, 156, 157, 158, 159, 160, 161, 162, 163, 164, 166, 167, 168, 169, 170] s53 := by
    rw [e53]
    exact frs_A f52 (by decide) _ _
  have hk53 : s53.1 100 = 14 := by
    rw [e53]
    exact kA hk52 (by decide) _ _
  refine z_pR hX liX12_ok (ini := true) (fun _ => liX12_i) 86 13 25 (fun k h => h) rfl hk53 (by decide +kernel) ?_
  obtain ⟨s54, e54⟩ : ∃ s, s = pR s53 100 25 (some 126) := ⟨_, rfl⟩
  show zS X (pR s53 100 25 (some 126)) _ _ _ _ _
  rw [← e54]
  have f54 : frs [127, 130, 131, 132, 133, 134, 136, 137, 138, 141, 142, 143, 144, 153, 154, 155, 156, 157, 158, 159, 160, 161, 162, 163, 164, 166, 167, 168, 169, 170] s54 := by
    rw [e54]
    exact frs_R f53 _ _ _
  have hk54 : s54.1 100 = 14 := by
    rw [e54]
    exact hk53
  refine bk hX lkX12_ok (pc' := 255) [.aload_n 0, .bipush 6] (by decide +kernel) (And.intro trivial ?_)
  refine z_newa hX (atype := .int) (t := 2) (by decide) rfl ka_int 127 (f54 _ List.mem_cons_self) (len := 6) (by decide) (by decide) (by decide) (by decide +kernel) (by omega) (by omega) ?_
  obtain ⟨s55, e55⟩ : ∃ s, s = zNewA s54 127 2 6 := ⟨_, rfl⟩
  show zS X (zNewA s54 127 2 6) _ _ _ _ _
  rw [← e55]
  have f55 : frs [130, 131, 132, 133, 134, 136, 137, 138, 141, 142, 143, 144, 153, 154, 155, 156, 157, 158, 159, 160, 161, 162, 163, 164, 166, 167, 168, 169, 170] s55 := by
    rw [e55]
    exact frs_A f54 (by decide) _ _
  have hk55 : s55.1 100 = 14 := by
    rw [e55]
    exact kA hk54 (by decide) _ _
  refine z_pR hX liX12_ok (ini := true) (fun _ => liX12_i) 90 13 26 (fun k h => h) rfl hk55 (by decide +kernel) ?_
  obtain ⟨s56, e56⟩ : ∃ s, s = pR s55 100 26 (some 127) := ⟨_, rfl⟩
  show zS X (pR s55 100 26 (some 127)) _ _ _ _ _
  rw [← e56]
  have f56 : frs [130, 131, 132, 133, 134, 136, 137, 138, 141, 142, 143, 144, 153, 154, 155, 156, 157, 158, 159, 160, 161, 162, 163, 164, 166, 167, 168, 169, 170] s56 := by
    rw [e56]
    exact frs_R f55 _ _ _
  have hk56 : s56.1 100 = 14 := by
    rw [e56]
    exact hk55
  refine bk hX lkX12_ok (pc' := 262) [.aload_n 0, .iconst 0] (by decide +kernel) (And.intro trivial ?_)
  refine z_pI hX liX12_ok (ini := true) (fun _ => liX12_i) 93 13 27 (fun k h => h) rfl hk56 (by decide +kernel) ?_
  obtain ⟨s57, e57⟩ : ∃ s, s = pI s56 100 27 (nI 0) := ⟨_, rfl⟩
  show zS X (pI s56 100 27 (nI 0)) _ _ _ _ _
  rw [← e57]
  have f57 : frs [130, 131, 132, 133, 134, 136, 137, 138, 141, 142, 143, 144, 153, 154, 155, 156, 157, 158, 159, 160, 161, 162, 163, 164, 166, 167, 168, 169, 170] s57 := by
    rw [e57]
    exact frs_I f56 _ _ _
  have hk57 : s57.1 100 = 14 := by
    rw [e57]
    exact hk56
  refine bk hX lkX12_ok (pc' := 267) [.aload_n 0, .iconst 0] (by decide +kernel) (And.intro trivial ?_)
  refine z_pI hX liX12_ok (ini := true) (fun _ => liX12_i) 96 13 28 (fun k h => h) rfl hk57 (by decide +kernel) ?_
  obtain ⟨s58, e58⟩ : ∃ s, s = pI s57 100 28 (nI 0) := ⟨_, rfl⟩
  show zS X (pI s57 100 28 (nI 0)) _ _ _ _ _
  rw [← e58]
  have f58 : frs [130, 131, 132, 133, 134, 136, 137, 138, 141, 142, 143, 144, 153, 154, 155, 156, 157, 158, 159, 160, 161, 162, 163, 164, 166, 167, 168, 169, 170] s58 := by
    rw [e58]
    exact frs_I f57 _ _ _
  have hk58 : s58.1 100 = 14 := by
    rw [e58]
    exact hk57
  refine bk hX lkX12_ok (pc' := 273) [.aload_n 0, .bipush 6] (by decide +kernel) (And.intro trivial ?_)
  refine z_newa hX (atype := .int) (t := 2) (by decide) rfl ka_int 130 (f58 _ List.mem_cons_self) (len := 6) (by decide) (by decide) (by decide) (by decide +kernel) (by omega) (by omega) ?_
  obtain ⟨s59, e59⟩ : ∃ s, s = zNewA s58 130 2 6 := ⟨_, rfl⟩
  show zS X (zNewA s58 130 2 6) _ _ _ _ _
  rw [← e59]
  have f59 : frs [131, 132, 133, 134, 136, 137, 138, 141, 142, 143, 144, 153, 154, 155, 156, 157, 158, 159, 160, 161, 162, 163, 164, 166, 167, 168, 169, 170] s59 := by
    rw [e59]
    exact frs_A f58 (by decide) _ _
  have hk59 : s59.1 100 = 14 := by
    rw [e59]
    exact kA hk58 (by decide) _ _
  refine z_pR hX liX12_ok (ini := true) (fun _ => liX12_i) 99 13 29 (fun k h => h) rfl hk59 (by decide +kernel) ?_
  obtain ⟨s60, e60⟩ : ∃ s, s = pR s59 100 29 (some 130) := ⟨_, rfl⟩
  show zS X (pR s59 100 29 (some 130)) _ _ _ _ _
  rw [← e60]
  have f60 : frs [131, 132, 133, 134, 136, 137, 138, 141, 142, 143, 144, 153, 154, 155, 156, 157, 158, 159, 160, 161, 162, 163, 164, 166, 167, 168, 169, 170] s60 := by
    rw [e60]
    exact frs_R f59 _ _ _
  have hk60 : s60.1 100 = 14 := by
    rw [e60]
    exact hk59
  refine bk hX lkX12_ok (pc' := 281) [.aload_n 0, .bipush 6] (by decide +kernel) (And.intro trivial ?_)
  refine z_newa hX (atype := .int) (t := 2) (by decide) rfl ka_int 131 (f60 _ List.mem_cons_self) (len := 6) (by decide) (by decide) (by decide) (by decide +kernel) (by omega) (by omega) ?_
  obtain ⟨s61, e61⟩ : ∃ s, s = zNewA s60 131 2 6 := ⟨_, rfl⟩
  show zS X (zNewA s60 131 2 6) _ _ _ _ _
  rw [← e61]
  have f61 : frs [132, 133, 134, 136, 137, 138, 141, 142, 143, 144, 153, 154, 155, 156, 157, 158, 159, 160, 161, 162, 163, 164, 166, 167, 168, 169, 170] s61 := by
    rw [e61]
    exact frs_A f60 (by decide) _ _
  have hk61 : s61.1 100 = 14 := by
    rw [e61]
    exact kA hk60 (by decide) _ _
  refine z_pR hX liX12_ok (ini := true) (fun _ => liX12_i) 102 13 30 (fun k h => h) rfl hk61 (by decide +kernel) ?_
  obtain ⟨s62, e62⟩ : ∃ s, s = pR s61 100 30 (some 131) := ⟨_, rfl⟩
  show zS X (pR s61 100 30 (some 131)) _ _ _ _ _
  rw [← e62]
  have f62 : frs [132, 133, 134, 136, 137, 138, 141, 142, 143, 144, 153, 154, 155, 156, 157, 158, 159, 160, 161, 162, 163, 164, 166, 167, 168, 169, 170] s62 := by
    rw [e62]
    exact frs_R f61 _ _ _
  have hk62 : s62.1 100 = 14 := by
    rw [e62]
    exact hk61
  refine bk hX lkX12_ok (pc' := 289) [.aload_n 0, .bipush 36] (by decide +kernel) (And.intro trivial ?_)
  refine z_newa hX (atype := .int) (t := 2) (by decide) rfl ka_int 132 (f62 _ List.mem_cons_self) (len := 36) (by decide) (by decide) (by decide) (by decide +kernel) (by omega) (by omega) ?_
  obtain ⟨s63, e63⟩ : ∃ s, s = zNewA s62 132 2 36 := ⟨_, rfl⟩
  show zS X (zNewA s62 132 2 36) _ _ _ _ _
  rw [← e63]
  have f63 : frs [133, 134, 136, 137, 138, 141, 142, 143, 144, 153, 154, 155, 156, 157, 158, 159, 160, 161, 162, 163, 164, 166, 167, 168, 169, 170] s63 := by
    rw [e63]
    exact frs_A f62 (by decide) _ _
  have hk63 : s63.1 100 = 14 := by
    rw [e63]
    exact kA hk62 (by decide) _ _
  refine z_pR hX liX12_ok (ini := true) (fun _ => liX12_i) 105 13 31 (fun k h => h) rfl hk63 (by decide +kernel) ?_
  obtain ⟨s64, e64⟩ : ∃ s, s = pR s63 100 31 (some 132) := ⟨_, rfl⟩
  show zS X (pR s63 100 31 (some 132)) _ _ _ _ _
  rw [← e64]
  have f64 : frs [133, 134, 136, 137, 138, 141, 142, 143, 144, 153, 154, 155, 156, 157, 158, 159, 160, 161, 162, 163, 164, 166, 167, 168, 169, 170] s64 := by
    rw [e64]
    exact frs_R f63 _ _ _
  have hk64 : s64.1 100 = 14 := by
    rw [e64]
    exact hk63
  refine bk hX lkX12_ok (pc' := 297) [.aload_n 0, .bipush 6] (by decide +kernel) (And.intro trivial ?_)
  refine z_newa hX (atype := .int) (t := 2) (by decide) rfl ka_int 133 (f64 _ List.mem_cons_self) (len := 6) (by decide) (by decide) (by decide) (by decide +kernel) (by omega) (by omega) ?_
  obtain ⟨s65, e65⟩ : ∃ s, s = zNewA s64 133 2 6 := ⟨_, rfl⟩
  show zS X (zNewA s64 133 2 6) _ _ _ _ _
  rw [← e65]
  have f65 : frs [134, 136, 137, 138, 141, 142, 143, 144, 153, 154, 155, 156, 157, 158, 159, 160, 161, 162, 163, 164, 166, 167, 168, 169, 170] s65 := by
    rw [e65]
    exact frs_A f64 (by decide) _ _
  have hk65 : s65.1 100 = 14 := by
    rw [e65]
    exact kA hk64 (by decide) _ _
  refine z_pR hX liX12_ok (ini := true) (fun _ => liX12_i) 108 13 32 (fun k h => h) rfl hk65 (by decide +kernel) ?_
  obtain ⟨s66, e66⟩ : ∃ s, s = pR s65 100 32 (some 133) := ⟨_, rfl⟩
  show zS X (pR s65 100 32 (some 133)) _ _ _ _ _
  rw [← e66]
  have f66 : frs [134, 136, 137, 138, 141, 142, 143, 144, 153, 154, 155, 156, 157, 158, 159, 160, 161, 162, 163, 164, 166, 167, 168, 169, 170] s66 := by
    rw [e66]
    exact frs_R f65 _ _ _
  have hk66 : s66.1 100 = 14 := by
    rw [e66]
    exact hk65
  refine bk hX lkX12_ok (pc' := 305) [.aload_n 0, .bipush 6] (by decide +kernel) (And.intro trivial ?_)
  refine z_newa hX (atype := .int) (t := 2) (by decide) rfl ka_int 134 (f66 _ List.mem_cons_self) (len := 6) (by decide) (by decide) (by decide) (by decide +kernel) (by omega) (by omega) ?_
  obtain ⟨s67, e67⟩ : ∃ s, s = zNewA s66 134 2 6 := ⟨_, rfl⟩
  show zS X (zNewA s66 134 2 6) _ _ _ _ _
  rw [← e67]
  have f67 : frs [136, 137, 138, 141, 142, 143, 144, 153, 154, 155, 156, 157, 158, 159, 160, 161, 162, 163, 164, 166, 167, 168, 169, 170] s67 := by
    rw [e67]
    exact frs_A f66 (by decide) _ _
  have hk67 : s67.1 100 = 14 := by
    rw [e67]
    exact kA hk66 (by decide) _ _
  refine z_pR hX liX12_ok (ini := true) (fun _ => liX12_i) 111 13 33 (fun k h => h) rfl hk67 (by decide +kernel) ?_
  obtain ⟨s68, e68⟩ : ∃ s, s = pR s67 100 33 (some 134) := ⟨_, rfl⟩
  show zS X (pR s67 100 33 (some 134)) _ _ _ _ _
  rw [← e68]
  have f68 : frs [136, 137, 138, 141, 142, 143, 144, 153, 154, 155, 156, 157, 158, 159, 160, 161, 162, 163, 164, 166, 167, 168, 169, 170] s68 := by
    rw [e68]
    exact frs_R f67 _ _ _
  have hk68 : s68.1 100 = 14 := by
    rw [e68]
    exact hk67
  refine bk hX lkX12_ok (pc' := 312) [.aload_n 0, .iconst 0] (by decide +kernel) (And.intro trivial ?_)
  refine z_pI hX liX12_ok (ini := true) (fun _ => liX12_i) 114 13 34 (fun k h => h) rfl hk68 (by decide +kernel) ?_
  obtain ⟨s69, e69⟩ : ∃ s, s = pI s68 100 34 (nI 0) := ⟨_, rfl⟩
  show zS X (pI s68 100 34 (nI 0)) _ _ _ _ _
  rw [← e69]
  have f69 : frs [136, 137, 138, 141, 142, 143, 144, 153, 154, 155, 156, 157, 158, 159, 160, 161, 162, 163, 164, 166, 167, 168, 169, 170] s69 := by
    rw [e69]
    exact frs_I f68 _ _ _
  have hk69 : s69.1 100 = 14 := by
    rw [e69]
    exact hk68
  refine bk hX lkX12_ok (pc' := 317) [.aload_n 0, .iconst 5] (by decide +kernel) (And.intro trivial ?_)
  refine z_newa hX (atype := .int) (t := 2) (by decide) rfl ka_int 136 (f69 _ List.mem_cons_self) (len := 5) (by decide) (by decide) (by decide) (by decide +kernel) (by omega) (by omega) ?_
  obtain ⟨s70, e70⟩ : ∃ s, s = zNewA s69 136 2 5 := ⟨_, rfl⟩
  show zS X (zNewA s69 136 2 5) _ _ _ _ _
  rw [← e70]
  have f70 : frs [137, 138, 141, 142, 143, 144, 153, 154, 155, 156, 157, 158, 159, 160, 161, 162, 163, 164, 166, 167, 168, 169, 170] s70 := by
    rw [e70]
    exact frs_A f69 (by decide) _ _
  have hk70 : s70.1 100 = 14 := by
    rw [e70]
    exact kA hk69 (by decide) _ _
  refine z_pR hX liX12_ok (ini := true) (fun _ => liX12_i) 117 13 35 (fun k h => h) rfl hk70 (by decide +kernel) ?_
  obtain ⟨s71, e71⟩ : ∃ s, s = pR s70 100 35 (some 136) := ⟨_, rfl⟩
  show zS X (pR s70 100 35 (some 136)) _ _ _ _ _
  rw [← e71]
  have f71 : frs [137, 138, 141, 142, 143, 144, 153, 154, 155, 156, 157, 158, 159, 160, 161, 162, 163, 164, 166, 167, 168, 169, 170] s71 := by
    rw [e71]
    exact frs_R f70 _ _ _
  have hk71 : s71.1 100 = 14 := by
    rw [e71]
    exact hk70
  refine bk hX lkX12_ok (pc' := 324) [.aload_n 0, .iconst 5] (by decide +kernel) (And.intro trivial ?_)
  refine z_newa hX (atype := .int) (t := 2) (by decide) rfl ka_int 137 (f71 _ List.mem_cons_self) (len := 5) (by decide) (by decide) (by decide) (by decide +kernel) (by omega) (by omega) ?_
  obtain ⟨s72, e72⟩ : ∃ s, s = zNewA s71 137 2 5 := ⟨_, rfl⟩
  show zS X (zNewA s71 137 2 5) _ _ _ _ _
  rw [← e72]
  have f72 : frs [138, 141, 142, 143, 144, 153, 154, 155, 156, 157, 158, 159, 160, 161, 162, 163, 164, 166, 167, 168, 169, 170] s72 := by
    rw [e72]
    exact frs_A f71 (by decide) _ _
  have hk72 : s72.1 100 = 14 := by
    rw [e72]
    exact kA hk71 (by decide) _ _
  refine z_pR hX liX12_ok (ini := true) (fun _ => liX12_i) 120 13 36 (fun k h => h) rfl hk72 (by decide +kernel) ?_
  obtain ⟨s73, e73⟩ : ∃ s, s = pR s72 100 36 (some 137) := ⟨_, rfl⟩
  show zS X (pR s72 100 36 (some 137)) _ _ _ _ _
  rw [← e73]
  have f73 : frs [138, 141, 142, 143, 144, 153, 154, 155, 156, 157, 158, 159, 160, 161, 162, 163, 164, 166, 167, 168, 169, 170] s73 := by
    rw [e73]
    exact frs_R f72 _ _ _
  have hk73 : s73.1 100 = 14 := by
    rw [e73]
    exact hk72
  refine bk hX lkX12_ok (pc' := 331) [.aload_n 0, .iconst 5] (by decide +kernel) (And.intro trivial ?_)
  refine z_newa hX (atype := .int) (t := 2) (by decide) rfl ka_int 138 (f73 _ List.mem_cons_self) (len := 5) (by decide) (by decide) (by decide) (by decide +kernel) (by omega) (by omega) ?_
  obtain ⟨s74, e74⟩ : ∃ s, s = zNewA s73 138 2 5 := ⟨_, rfl⟩
  show zS X (zNewA s73 138 2 5) _ _ _ _ _
  rw [← e74]
  have f74 : frs [141, 142, 143, 144, 153, 154, 155, 156, 157, 158, 159, 160, 161, 162, 163, 164, 166, 167, 168, 169, 170] s74 := by
    rw [e74]
    exact frs_A f73 (by decide) _ _
  have hk74 : s74.1 100 = 14 := by
    rw [e74]
    exact kA hk73 (by decide) _ _
  refine z_pR hX liX12_ok (ini := true) (fun _ => liX12_i) 123 13 37 (fun k h => h) rfl hk74 (by decide +kernel) ?_
  obtain ⟨s75, e75⟩ : ∃ s, s = pR s74 100 37 (some 138) := ⟨_, rfl⟩
  show zS X (pR s74 100 37 (some 138)) _ _ _ _ _
  rw [← e75]
  have f75 : frs [141, 142, 143, 144, 153, 154, 155, 156, 157, 158, 159, 160, 161, 162, 163, 164, 166, 167, 168, 169, 170] s75 := by
    rw [e75]
    exact frs_R f74 _ _ _
  have hk75 : s75.1 100 = 14 := by
    rw [e75]
    exact hk74
  refine bk hX lkX12_ok (pc' := 338) [.aload_n 0, .iconst 0] (by decide +kernel) (And.intro trivial ?_)
  refine z_pI hX liX12_ok (ini := true) (fun _ => liX12_i) 126 13 38 (fun k h => h) rfl hk75 (by decide +kernel) ?_
  obtain ⟨s76, e76⟩ : ∃ s, s = pI s75 100 38 (nI 0) := ⟨_, rfl⟩
  show zS X (pI s75 100 38 (nI 0)) _ _ _ _ _
  rw [← e76]
  have f76 : frs [141, 142, 143, 144, 153, 154, 155, 156, 157, 158, 159, 160, 161, 162, 163, 164, 166, 167, 168, 169, 170] s76 := by
    rw [e76]
    exact frs_I f75 _ _ _
  have hk76 : s76.1 100 = 14 := by
    rw [e76]
    exact hk75
  refine bk hX lkX12_ok (pc' := 343) [.aload_n 0, .iconst 0] (by decide +kernel) (And.intro trivial ?_)
  refine z_pI hX liX12_ok (ini := true) (fun _ => liX12_i) 129 13 39 (fun k h => h) rfl hk76 (by decide +kernel) ?_
  obtain ⟨s77, e77⟩ : ∃ s, s = pI s76 100 39 (nI 0) := ⟨_, rfl⟩
  show zS X (pI s76 100 39 (nI 0)) _ _ _ _ _
  rw [← e77]
  have f77 : frs [141, 142, 143, 144, 153, 154, 155, 156, 157, 158, 159, 160, 161, 162, 163, 164, 166, 167, 168, 169, 170] s77 := by
    rw [e77]
    exact frs_I f76 _ _ _
  have hk77 : s77.1 100 = 14 := by
    rw [e77]
    exact hk76
  refine bk hX lkX12_ok (pc' := 349) [.aload_n 0, .bipush 10] (by decide +kernel) (And.intro trivial ?_)
  refine z_newa hX (atype := .int) (t := 2) (by decide) rfl ka_int 141 (f77 _ List.mem_cons_self) (len := 10) (by decide) (by decide) (by decide) (by decide +kernel) (by omega) (by omega) ?_
  obtain ⟨s78, e78⟩ : ∃ s, s = zNewA s77 141 2 10 := ⟨_, rfl⟩
  show zS X (zNewA s77 141 2 10) _ _ _ _ _
  rw [← e78]
  have f78 : frs [142, 143, 144, 153, 154, 155, 156, 157, 158, 159, 160, 161, 162, 163, 164, 166, 167, 168, 169, 170] s78 := by
    rw [e78]
    exact frs_A f77 (by decide) _ _
  have hk78 : s78.1 100 = 14 := by
    rw [e78]
    exact kA hk77 (by decide) _ _
  refine z_pR hX liX12_ok (ini := true) (fun _ => liX12_i) 132 13 40 (fun k h => h) rfl hk78 (by decide +kernel) ?_
  obtain ⟨s79, e79⟩ : ∃ s, s = pR s78 100 40 (some 141) := ⟨_, rfl⟩
  show zS X (pR s78 100 40 (some 141)) _ _ _ _ _
  rw [← e79]
  have f79 : frs [142, 143, 144, 153, 154, 155, 156, 157, 158, 159, 160, 161, 162, 163, 164, 166, 167, 168, 169, 170] s79 := by
    rw [e79]
    exact frs_R f78 _ _ _
  have hk79 : s79.1 100 = 14 := by
    rw [e79]
    exact hk78
  refine bk hX lkX12_ok (pc' := 357) [.aload_n 0, .bipush 10] (by decide +kernel) (And.intro trivial ?_)
  refine z_newa hX (atype := .int) (t := 2) (by decide) rfl ka_int 142 (f79 _ List.mem_cons_self) (len := 10) (by decide) (by decide) (by decide) (by decide +kernel) (by omega) (by omega) ?_
  obtain ⟨s80, e80⟩ : ∃ s, s = zNewA s79 142 2 10 := ⟨_, rfl⟩
  show zS X (zNewA s79 142 2 10) _ _ _ _ _
  rw [← e80]
  have f80 : frs [143, 144, 153, 154, 155, 156, 157, 158, 159, 160, 161, 162, 163, 164, 166, 167, 168, 169, 170] s80 := by
    rw [e80]
    exact frs_A f79 (by decide) _ _
  have hk80 : s80.1 100 = 14 := by
    rw [e80]
    exact kA hk79 (by decide) _ _
  refine z_pR hX liX12_ok (ini := true) (fun _ => liX12_i) 135 13 41 (fun k h => h) rfl hk80 (by decide +kernel) ?_
  obtain ⟨s81, e81⟩ : ∃ s, s = pR s80 100 41 (some 142) := ⟨_, rfl⟩
  show zS X (pR s80 100 41 (some 142)) _ _ _ _ _
  rw [← e81]
  have f81 : frs [143, 144, 153, 154, 155, 156, 157, 158, 159, 160, 161, 162, 163, 164, 166, 167, 168, 169, 170] s81 := by
    rw [e81]
    exact frs_R f80 _ _ _
  have hk81 : s81.1 100 = 14 := by
    rw [e81]
    exact hk80
  refine bk hX lkX12_ok (pc' := 365) [.aload_n 0, .bipush 8] (by decide +kernel) (And.intro trivial ?_)
  refine z_newa hX (atype := .int) (t := 2) (by decide) rfl ka_int 143 (f81 _ List.mem_cons_self) (len := 8) (by decide) (by decide) (by decide) (by decide +kernel) (by omega) (by omega) ?_
  obtain ⟨s82, e82⟩ : ∃ s, s = zNewA s81 143 2 8 := ⟨_, rfl⟩
  show zS X (zNewA s81 143 2 8) _ _ _ _ _
  rw [← e82]
  have f82 : frs [144, 153, 154, 155, 156, 157, 158, 159, 160, 161, 162, 163, 164, 166, 167, 168, 169, 170] s82 := by
    rw [e82]
    exact frs_A f81 (by decide) _ _
  have hk82 : s82.1 100 = 14 := by
    rw [e82]
    exact kA hk81 (by decide) _ _
  refine z_pR hX liX12_ok (ini := true) (fun _ => liX12_i) 138 13 42 (fun k h => h) rfl hk82 (by decide +kernel) ?_
  obtain ⟨s83, e83⟩ : ∃ s, s = pR s82 100 42 (some 143) := ⟨_, rfl⟩
  show zS X (pR s82 100 42 (some 143)) _ _ _ _ _
  rw [← e83]
  have f83 : frs [144, 153, 154, 155, 156, 157, 158, 159, 160, 161, 162, 163, 164, 166, 167, 168, 169, 170] s83 := by
    rw [e83]
    exact frs_R f82 _ _ _
  have hk83 : s83.1 100 = 14 := by
    rw [e83]
    exact hk82
  refine bk hX lkX12_ok (pc' := 373) [.aload_n 0, .bipush 8] (by decide +kernel) (And.intro trivial ?_)
  refine z_newa hX (atype := .int) (t := 2) (by decide) rfl ka_int 144 (f83 _ List.mem_cons_self) (len := 8) (by decide) (by decide) (by decide) (by decide +kernel) (by omega) (by omega) ?_
  obtain ⟨s84, e84⟩ : ∃ s, s = zNewA s83 144 2 8 := ⟨_, rfl⟩
  show zS X (zNewA s83 144 2 8) _ _ _ _ _
  rw [← e84]
  have f84 : frs [153, 154, 155, 156, 157, 158, 159, 160, 161, 162, 163, 164, 166, 167, 168, 169, 170] s84 := by
    rw [e84]
    exact frs_A f83 (by decide) _ _
  have hk84 : s84.1 100 = 14 := by
    rw [e84]
    exact kA hk83 (by decide) _ _
  refine z_pR hX liX12_ok (ini := true) (fun _ => liX12_i) 141 13 43 (fun k h => h) rfl hk84 (by decide +kernel) ?_
  obtain ⟨s85, e85⟩ : ∃ s, s = pR s84 100 43 (some 144) := ⟨_, rfl⟩
  show zS X (pR s84 100 43 (some 144)) _ _ _ _ _
  rw [← e85]
  have f85 : frs [153, 154, 155, 156, 157, 158, 159, 160, 161, 162, 163, 164, 166, 167, 168, 169, 170] s85 := by
    rw [e85]
    exact frs_R f84 _ _ _
  have hk85 : s85.1 100 = 14 := by
    rw [e85]
    exact hk84
  refine bk hX lkX12_ok (pc' := 380) [.aload_n 0, .iconst 0] (by decide +kernel) (And.intro trivial ?_)
  refine z_pZ hX liX12_ok (ini := true) (fun _ => liX12_i) 144 13 44 2 (Or.inl rfl) (fun k h => h) rfl hk85 (by decide +kernel) ?_
  obtain ⟨s86, e86⟩ : ∃ s, s = pI s85 100 44 (nI 0) := ⟨_, rfl⟩
  show zS X (pI s85 100 44 (nI 0)) _ _ _ _ _
  rw [← e86]
  have f86 : frs [153, 154, 155, 156, 157, 158, 159, 160, 161, 162, 163, 164, 166, 167, 168, 169, 170] s86 := by
    rw [e86]
    exact frs_I f85 _ _ _
  have hk86 : s86.1 100 = 14 := by
    rw [e86]
    exact hk85
  refine bk hX lkX12_ok (pc' := 385) [.aload_n 0, .iconst (Int.negSucc 0)] (by decide +kernel) (And.intro trivial ?_)
  refine z_pI hX liX12_ok (ini := true) (fun _ => liX12_i) 148 13 45 (fun k h => h) rfl hk86 (by decide +kernel) ?_
  obtain ⟨s87, e87⟩ : ∃ s, s = pI s86 100 45 (-nI 1) := ⟨_, rfl⟩
  show zS X (pI s86 100 45 (-nI 1)) _ _ _ _ _
  rw [← e87]
  have f87 : frs [153, 154, 155, 156, 157, 158, 159, 160, 161, 162, 163, 164, 166, 167, 168, 169, 170] s87 := by
    rw [e87]
    exact frs_I f86 _ _ _
  have hk87 : s87.1 100 = 14 := by
    rw [e87]
    exact hk86
  refine bk hX lkX12_ok (pc' := 390) [.aload_n 0, .iconst 0] (by decide +kernel) (And.intro trivial ?_)
  refine z_pI hX liX12_ok (ini := true) (fun _ => liX12_i) 151 13 46 (fun k h => h) rfl hk87 (by decide +kernel) ?_
  obtain ⟨s88, e88⟩ : ∃ s, s = pI s87 100 46 (nI 0) := ⟨_, rfl⟩
  show zS X (pI s87 100 46 (nI 0)) _ _ _ _ _
  rw [← e88]
  have f88 : frs [153, 154, 155, 156, 157, 158, 159, 160, 161, 162, 163, 164, 166, 167, 168, 169, 170] s88 := by
    rw [e88]
    exact frs_I f87 _ _ _
  have hk88 : s88.1 100 = 14 := by
    rw [e88]
    exact hk87
  refine bk hX lkX12_ok (pc' := 395) [.aload_n 0, .iconst 0] (by decide +kernel) (And.intro trivial ?_)
  refine z_pI hX liX12_ok (ini := true) (fun _ => liX12_i) 154 13 47 (fun k h => h) rfl hk88 (by decide +kernel) ?_
  obtain ⟨s89, e89⟩ : ∃ s, s = pI s88 100 47 (nI 0) := ⟨_, rfl⟩
  show zS X (pI s88 100 47 (nI 0)) _ _ _ _ _
  rw [← e89]
  have f89 : frs [153, 154, 155, 156, 157, 158, 159, 160, 161, 162, 163, 164, 166, 167, 168, 169, 170] s89 := by
    rw [e89]
    exact frs_I f88 _ _ _
  have hk89 : s89.1 100 = 14 := by
    rw [e89]
    exact hk88
  refine bk hX lkX12_ok (pc' := 400) [.aload_n 0, .iconst 0] (by decide +kernel) (And.intro trivial ?_)
  refine z_pI hX liX12_ok (ini := true) (fun _ => liX12_i) 157 13 48 (fun k h => h) rfl hk89 (by decide +kernel) ?_
  obtain ⟨s90, e90⟩ : ∃ s, s = pI s89 100 48 (nI 0) := ⟨_, rfl⟩
  show zS X (pI s89 100 48 (nI 0)) _ _ _ _ _
  rw [← e90]
  have f90 : frs [153, 154, 155, 156, 157, 158, 159, 160, 161, 162, 163, 164, 166, 167, 168, 169, 170] s90 := by
    rw [e90]
    exact frs_I f89 _ _ _
  have hk90 : s90.1 100 = 14 := by
    rw [e90]
    exact hk89
  refine bk hX lkX12_ok (pc' := 405) [.aload_n 0, .iconst 0] (by decide +kernel) (And.intro trivial ?_)
  refine z_pI hX liX12_ok (ini := true) (fun _ => liX12_i) 160 13 49 (fun k h => h) rfl hk90 (by decide +kernel) ?_
  obtain ⟨s91, e91⟩ : ∃ s, s = pI s90 100 49 (nI 0) := ⟨_, rfl⟩
  show zS X (pI s90 100 49 (nI 0)) _ _ _ _ _
  rw [← e91]
  have f91 : frs [153, 154, 155, 156, 157, 158, 159, 160, 161, 162, 163, 164, 166, 167, 168, 169, 170] s91 := by
    rw [e91]
    exact frs_I f90 _ _ _
  have hk91 : s91.1 100 = 14 := by
    rw [e91]
    exact hk90
  refine bk hX lkX12_ok (pc' := 410) [.aload_n 0, .iconst 0] (by decide +kernel) (And.intro trivial ?_)
  refine z_pI hX liX12_ok (ini := true) (fun _ => liX12_i) 163 13 50 (fun k h => h) rfl hk91 (by decide +kernel) ?_
  obtain ⟨s92, e92⟩ : ∃ s, s = pI s91 100 50 (nI 0) := ⟨_, rfl⟩
  show zS X (pI s91 100 50 (nI 0)) _ _ _ _ _
  rw [← e92]
  have f92 : frs [153, 154, 155, 156, 157, 158, 159, 160, 161, 162, 163, 164, 166, 167, 168, 169, 170] s92 := by
    rw [e92]
    exact frs_I f91 _ _ _
  have hk92 : s92.1 100 = 14 := by
    rw [e92]
    exact hk91
  refine bk hX lkX12_ok (pc' := 415) [.aload_n 0, .iconst 0] (by decide +kernel) (And.intro trivial ?_)
  refine z_pI hX liX12_ok (ini := true) (fun _ => liX12_i) 166 13 51 (fun k h => h) rfl hk92 (by decide +kernel) ?_
  obtain ⟨s93, e93⟩ : ∃ s, s = pI s92 100 51 (nI 0) := ⟨_, rfl⟩
  show zS X (pI s92 100 51 (nI 0)) _ _ _ _ _
  rw [← e93]
  have f93 : frs [153, 154, 155, 156, 157, 158, 159, 160, 161, 162, 163, 164, 166, 167, 168, 169, 170] s93 := by
    rw [e93]
    exact frs_I f92 _ _ _
  have hk93 : s93.1 100 = 14 := by
    rw [e93]
    exact hk92
  refine bk hX lkX12_ok (pc' := 421) [.aload_n 0, .bipush 6] (by decide +kernel) (And.intro trivial ?_)
  refine z_newa hX (atype := .int) (t := 2) (by decide) rfl ka_int 153 (f93 _ List.mem_cons_self) (len := 6) (by decide) (by decide) (by decide) (by decide +kernel) (by omega) (by omega) ?_
  obtain ⟨s94, e94⟩ : ∃ s, s = zNewA s93 153 2 6 := ⟨_, rfl⟩
  show zS X (zNewA s93 153 2 6) _ _ _ _ _
  rw [← e94]
  have f94 : frs [154, 155, 156, 157, 158, 159, 160, 161, 162, 163, 164, 166, 167, 168, 169, 170] s94 := by
    rw [e94]
    exact frs_A f93 (by decide) _ _
  have hk94 : s94.1 100 = 14 := by
    rw [e94]
    exact kA hk93 (by decide) _ _
  refine z_pR hX liX12_ok (ini := true) (fun _ => liX12_i) 169 13 52 (fun k h => h) rfl hk94 (by decide +kernel) ?_
  obtain ⟨s95, e95⟩ : ∃ s, s = pR s94 100 52 (some 153) := ⟨_, rfl⟩
  show zS X (pR s94 100 52 (some 153)) _ _ _ _ _
  rw [← e95]
  have f95 : frs [154, 155, 156, 157, 158, 159, 160, 161, 162, 163, 164, 166, 167, 168, 169, 170] s95 := by
    rw [e95]
    exact frs_R f94 _ _ _
  have hk95 : s95.1 100 = 14 := by
    rw [e95]
    exact hk94
  refine bk hX lkX12_ok (pc' := 429) [.aload_n 0, .bipush 6] (by decide +kernel) (And.intro trivial ?_)
  refine z_newa hX (atype := .int) (t := 2) (by decide) rfl ka_int 154 (f95 _ List.mem_cons_self) (len := 6) (by decide) (by decide) (by decide) (by decide +kernel) (by omega) (by omega) ?_
  obtain ⟨s96, e96⟩ : ∃ s, s = zNewA s95 154 2 6 := ⟨_, rfl⟩
  show zS X (zNewA s95 154 2 6) _ _ _ _ _
  rw [← e96]
  have f96 : frs [155, 156, 157, 158, 159, 160, 161, 162, 163, 164, 166, 167, 168, 169, 170] s96 := by
    rw [e96]
    exact frs_A f95 (by decide) _ _
  have hk96 : s96.1 100 = 14 := by
    rw [e96]
    exact kA hk95 (by decide) _ _
  refine z_pR hX liX12_ok (ini := true) (fun _ => liX12_i) 172 13 53 (fun k h => h) rfl hk96 (by decide +kernel) ?_
  obtain ⟨s97, e97⟩ : ∃ s, s = pR s96 100 53 (some 154) := ⟨_, rfl⟩
  show zS X (pR s96 100 53 (some 154)) _ _ _ _ _
  rw [← e97]
  have f97 : frs [155, 156, 157, 158, 159, 160, 161, 162, 163, 164, 166, 167, 168, 169, 170] s97 := by
    rw [e97]
    exact frs_R f96 _ _ _
  have hk97 : s97.1 100 = 14 := by
    rw [e97]
    exact hk96
  refine bk hX lkX12_ok (pc' := 437) [.aload_n 0, .bipush 6] (by decide +kernel) (And.intro trivial ?_)
  refine z_newa hX (atype := .int) (t := 2) (by decide) rfl ka_int 155 (f97 _ List.mem_cons_self) (len := 6) (by decide) (by decide) (by decide) (by decide +kernel) (by omega) (by omega) ?_
  obtain ⟨s98, e98⟩ : ∃ s, s = zNewA s97 155 2 6 := ⟨_, rfl⟩
  show zS X (zNewA s97 155 2 6) _ _ _ _ _
  rw [← e98]
  have f98 : frs [156, 157, 158, 159, 160, 161, 162, 163, 164, 166, 167, 168, 169, 170] s98 := by
    rw [e98]
    exact frs_A f97 (by decide) _ _
  have hk98 : s98.1 100 = 14 := by
    rw [e98]
    exact kA hk97 (by decide) _ _
  refine z_pR hX liX12_ok (ini := true) (fun _ => liX12_i) 175 13 54 (fun k h => h) rfl hk98 (by decide +kernel) ?_
  obtain ⟨s99, e99⟩ : ∃ s, s = pR s98 100 54 (some 155) := ⟨_, rfl⟩
  show zS X (pR s98 100 54 (some 155)) _ _ _ _ _
  rw [← e99]
  have f99 : frs [156, 157, 158, 159, 160, 161, 162, 163, 164, 166, 167, 168, 169, 170] s99 := by
    rw [e99]
    exact frs_R f98 _ _ _
  have hk99 : s99.1 100 = 14 := by
    rw [e99]
    exact hk98
  refine bk hX lkX12_ok (pc' := 445) [.aload_n 0, .bipush 6] (by decide +kernel) (And.intro trivial ?_)
  refine z_newa hX (atype := .int) (t := 2) (by decide) rfl ka_int 156 (f99 _ List.mem_cons_self) (len := 6) (by decide) (by decide) (by decide) (by decide +kernel) (by omega) (by omega) ?_
  obtain ⟨s100, e100⟩ : ∃ s, s = zNewA s99 156 2 6 := ⟨_, rfl⟩
  show zS X (zNewA s99 156 2 6) _ _ _ _ _
  rw [← e100]
  have f100 : frs [157, 158, 159, 160, 161, 162, 163, 164, 166, 167, 168, 169, 170] s100 := by
    rw [e100]
    exact frs_A f99 (by decide) _ _
  have hk100 : s100.1 100 = 14 := by
    rw [e100]
    exact kA hk99 (by decide) _ _
  refine z_pR hX liX12_ok (ini := true) (fun _ => liX12_i) 178 13 55 (fun k h => h) rfl hk100 (by decide +kernel) ?_
  obtain ⟨s101, e101⟩ : ∃ s, s = pR s100 100 55 (some 156) := ⟨_, rfl⟩
  show zS X (pR s100 100 55 (some 156)) _ _ _ _ _
  rw [← e101]
  have f101 : frs [157, 158, 159, 160, 161, 162, 163, 164, 166, 167, 168, 169, 170] s101 := by
    rw [e101]
    exact frs_R f100 _ _ _
  have hk101 : s101.1 100 = 14 := by
    rw [e101]
    exact hk100
  refine bk hX lkX12_ok (pc' := 453) [.aload_n 0, .bipush 24] (by decide +kernel) (And.intro trivial ?_)
  refine z_newa hX (atype := .int) (t := 2) (by decide) rfl ka_int 157 (f101 _ List.mem_cons_self) (len := 24) (by decide) (by decide) (by decide) (by decide +kernel) (by omega) (by omega) ?_
  obtain ⟨s102, e102⟩ : ∃ s, s = zNewA s101 157 2 24 := ⟨_, rfl⟩
  show zS X (zNewA s101 157 2 24) _ _ _ _ _
  rw [← e102]
  have f102 : frs [158, 159, 160, 161, 162, 163, 164, 166, 167, 168, 169, 170] s102 := by
    rw [e102]
    exact frs_A f101 (by decide) _ _
  have hk102 : s102.1 100 = 14 := by
    rw [e102]
    exact kA hk101 (by decide) _ _
  refine z_pR hX liX12_ok (ini := true) (fun _ => liX12_i) 181 13 56 (fun k h => h) rfl hk102 (by decide +kernel) ?_
  obtain ⟨s103, e103⟩ : ∃ s, s = pR s102 100 56 (some 157) := ⟨_, rfl⟩
  show zS X (pR s102 100 56 (some 157)) _ _ _ _ _
  rw [← e103]
  have f103 : frs [158, 159, 160, 161, 162, 163, 164, 166, 167, 168, 169, 170] s103 := by
    rw [e103]
    exact frs_R f102 _ _ _
  have hk103 : s103.1 100 = 14 := by
    rw [e103]
    exact hk102
  refine bk hX lkX12_ok (pc' := 460) [.aload_n 0, .iconst 5] (by decide +kernel) (And.intro trivial ?_)
  refine z_newa hX (atype := .int) (t := 2) (by decide) rfl ka_int 158 (f103 _ List.mem_cons_self) (len := 5) (by decide) (by decide) (by decide) (by decide +kernel) (by omega) (by omega) ?_
  obtain ⟨s104, e104⟩ : ∃ s, s = zNewA s103 158 2 5 := ⟨_, rfl⟩
  show zS X (zNewA s103 158 2 5) _ _ _ _ _
  rw [← e104]
  have f104 : frs [159, 160, 161, 162, 163, 164, 166, 167, 168, 169, 170] s104 := by
    rw [e104]
    exact frs_A f103 (by decide) _ _
  have hk104 : s104.1 100 = 14 := by
    rw [e104]
    exact kA hk103 (by decide) _ _
  refine z_pR hX liX12_ok (ini := true) (fun _ => liX12_i) 184 13 57 (fun k h => h) rfl hk104 (by decide +kernel) ?_
  obtain ⟨s105, e105⟩ : ∃ s, s = pR s104 100 57 (some 158) := ⟨_, rfl⟩
  show zS X (pR s104 100 57 (some 158)) _ _ _ _ _
  rw [← e105]
  have f105 : frs [159, 160, 161, 162, 163, 164, 166, 167, 168, 169, 170] s105 := by
    rw [e105]
    exact frs_R f104 _ _ _
  have hk105 : s105.1 100 = 14 := by
    rw [e105]
    exact hk104
  refine bk hX lkX12_ok (pc' := 467) [.aload_n 0, .iconst 5] (by decide +kernel) (And.intro trivial ?_)
  refine z_newa hX (atype := .int) (t := 2) (by decide) rfl ka_int 159 (f105 _ List.mem_cons_self) (len := 5) (by decide) (by decide) (by decide) (by decide +kernel) (by omega) (by omega) ?_
  obtain ⟨s106, e106⟩ : ∃ s, s = zNewA s105 159 2 5 := ⟨_, rfl⟩
  show zS X (zNewA s105 159 2 5) _ _ _ _ _
  rw [← e106]
  have f106 : frs [160, 161, 162, 163, 164, 166, 167, 168, 169, 170] s106 := by
    rw [e106]
    exact frs_A f105 (by decide) _ _
  have hk106 : s106.1 100 = 14 := by
    rw [e106]
    exact kA hk105 (by decide) _ _
  refine z_pR hX liX12_ok (ini := true) (fun _ => liX12_i) 187 13 58 (fun k h => h) rfl hk106 (by decide +kernel) ?_
  obtain ⟨s107, e107⟩ : ∃ s, s = pR s106 100 58 (some 159) := ⟨_, rfl⟩
  show zS X (pR s106 100 58 (some 159)) _ _ _ _ _
  rw [← e107]
  have f107 : frs [160, 161, 162, 163, 164, 166, 167, 168, 169, 170] s107 := by
    rw [e107]
    exact frs_R f106 _ _ _
  have hk107 : s107.1 100 = 14 := by
    rw [e107]
    exact hk106
  refine bk hX lkX12_ok (pc' := 474) [.aload_n 0, .iconst 5] (by decide +kernel) (And.intro trivial ?_)
  refine z_newa hX (atype := .int) (t := 2) (by decide) rfl ka_int 160 (f107 _ List.mem_cons_self) (len := 5) (by decide) (by decide) (by decide) (by decide +kernel) (by omega) (by omega) ?_
  obtain ⟨s108, e108⟩ : ∃ s, s = zNewA s107 160 2 5 := ⟨_, rfl⟩
  show zS X (zNewA s107 160 2 5) _ _ _ _ _
  rw [← e108]
  have f108 : frs [161, 162, 163, 164, 166, 167, 168, 169, 170] s108 := by
    rw [e108]
    exact frs_A f107 (by decide) _ _
  have hk108 : s108.1 100 = 14 := by
    rw [e108]
    exact kA hk107 (by decide) _ _
  refine z_pR hX liX12_ok (ini := true) (fun _ => liX12_i) 190 13 59 (fun k h => h) rfl hk108 (by decide +kernel) ?_
  obtain ⟨s109, e109⟩ : ∃ s, s = pR s108 100 59 (some 160) := ⟨_, rfl⟩
  show zS X (pR s108 100 59 (some 160)) _ _ _ _ _
  rw [← e109]
  have f109 : frs [161, 162, 163, 164, 166, 167, 168, 169, 170] s109 := by
    rw [e109]
    exact frs_R f108 _ _ _
  have hk109 : s109.1 100 = 14 := by
    rw [e109]
    exact hk108
  refine bk hX lkX12_ok (pc' := 482) [.aload_n 0, .bipush 10] (by decide +kernel) (And.intro trivial ?_)
  refine z_newa hX (atype := .int) (t := 2) (by decide) rfl ka_int 161 (f109 _ List.mem_cons_self) (len := 10) (by decide) (by decide) (by decide) (by decide +kernel) (by omega) (by omega) ?_
  obtain ⟨s110, e110⟩ : ∃ s, s = zNewA s109 161 2 10 := ⟨_, rfl⟩
  show zS X (zNewA s109 161 2 10) _ _ _ _ _
  rw [← e110]
  have f110 : frs [162, 163, 164, 166, 167, 168, 169, 170] s110 := by
    rw [e110]
    exact frs_A f109 (by decide) _ _
  have hk110 : s110.1 100 = 14 := by
    rw [e110]
    exact kA hk109 (by decide) _ _
  refine z_pR hX liX12_ok (ini := true) (fun _ => liX12_i) 193 13 60 (fun k h => h) rfl hk110 (by decide +kernel) ?_
  obtain ⟨s111, e111⟩ : ∃ s, s = pR s110 100 60 (some 161) := ⟨_, rfl⟩
  show zS X (pR s110 100 60 (some 161)) _ _ _ _ _
  rw [← e111]
  have f111 : frs [162, 163, 164, 166, 167, 168, 169, 170] s111 := by
    rw [e111]
    exact frs_R f110 _ _ _
  have hk111 : s111.1 100 = 14 := by
    rw [e111]
    exact hk110
  refine bk hX lkX12_ok (pc' := 490) [.aload_n 0, .bipush 10] (by decide +kernel) (And.intro trivial ?_)
  refine z_newa hX (atype := .int) (t := 2) (by decide) rfl ka_int 162 (f111 _ List.mem_cons_self) (len := 10) (by decide) (by decide) (by decide) (by decide +kernel) (by omega) (by omega) ?_
  obtain ⟨s112, e112⟩ : ∃ s, s = zNewA s111 162 2 10 := ⟨_, rfl⟩
  show zS X (zNewA s111 162 2 10) _ _ _ _ _
  rw [← e112]
  have f112 : frs [163, 164, 166, 167, 168, 169, 170] s112 := by
    rw [e112]
    exact frs_A f111 (by decide) _ _
  have hk112 : s112.1 100 = 14 := by
    rw [e112]
    exact kA hk111 (by decide) _ _
  refine z_pR hX liX12_ok (ini := true) (fun _ => liX12_i) 196 13 61 (fun k h => h) rfl hk112 (by decide +kernel) ?_
  obtain ⟨s113, e113⟩ : ∃ s, s = pR s112 100 61 (some 162) := ⟨_, rfl⟩
  show zS X (pR s112 100 61 (some 162)) _ _ _ _ _
  rw [← e113]
  have f113 : frs [163, 164, 166, 167, 168, 169, 170] s113 := by
    rw [e113]
    exact frs_R f112 _ _ _
  have hk113 : s113.1 100 = 14 := by
    rw [e113]
    exact hk112
  refine bk hX lkX12_ok (pc' := 498) [.aload_n 0, .bipush 8] (by decide +kernel) (And.intro trivial ?_)
  refine z_newa hX (atype := .int) (t := 2) (by decide) rfl ka_int 163 (f113 _ List.mem_cons_self) (len := 8) (by decide) (by decide) (by decide) (by decide +kernel) (by omega) (by omega) ?_
  obtain ⟨s114, e114⟩ : ∃ s, s = zNewA s113 163 2 8 := ⟨_, rfl⟩
  show zS X (zNewA s113 163 2 8) _ _ _ _ _
  rw [← e114]
  have f114 : frs [164, 166, 167, 168, 169, 170] s114 := by
    rw [e114]
    exact frs_A f113 (by decide) _ _
  have hk114 : s114.1 100 = 14 := by
    rw [e114]
    exact kA hk113 (by decide) _ _
  refine z_pR hX liX12_ok (ini := true) (fun _ => liX12_i) 199 13 62 (fun k h => h) rfl hk114 (by decide +kernel) ?_
  obtain ⟨s115, e115⟩ : ∃ s, s = pR s114 100 62 (some 163) := ⟨_, rfl⟩
  show zS X (pR s114 100 62 (some 163)) _ _ _ _ _
  rw [← e115]
  have f115 : frs [164, 166, 167, 168, 169, 170] s115 := by
    rw [e115]
    exact frs_R f114 _ _ _
  have hk115 : s115.1 100 = 14 := by
    rw [e115]
    exact hk114
  refine bk hX lkX12_ok (pc' := 506) [.aload_n 0, .bipush 8] (by decide +kernel) (And.intro trivial ?_)
  refine z_newa hX (atype := .int) (t := 2) (by decide) rfl ka_int 164 (f115 _ List.mem_cons_self) (len := 8) (by decide) (by decide) (by decide) (by decide +kernel) (by omega) (by omega) ?_
  obtain ⟨s116, e116⟩ : ∃ s, s = zNewA s115 164 2 8 := ⟨_, rfl⟩
  show zS X (zNewA s115 164 2 8) _ _ _ _ _
  rw [← e116]
  have f116 : frs [166, 167, 168, 169, 170] s116 := by
    rw [e116]
    exact frs_A f115 (by decide) _ _
  have hk116 : s116.1 100 = 14 := by
    rw [e116]
    exact kA hk115 (by decide) _ _
  refine z_pR hX liX12_ok (ini := true) (fun _ => liX12_i) 202 13 63 (fun k h => h) rfl hk116 (by decide +kernel) ?_
  obtain ⟨s117, e117⟩ : ∃ s, s = pR s116 100 63 (some 164) := ⟨_, rfl⟩
  show zS X (pR s116 100 63 (some 164)) _ _ _ _ _
  rw [← e117]
  have f117 : frs [166, 167, 168, 169, 170] s117 := by
    rw [e117]
    exact frs_R f116 _ _ _
  have hk117 : s117.1 100 = 14 := by
    rw [e117]
    exact hk116
  refine bk hX lkX12_ok (pc' := 513) [.aload_n 0, .iconst 0] (by decide +kernel) (And.intro trivial ?_)
  refine z_pI hX liX12_ok (ini := true) (fun _ => liX12_i) 205 13 64 (fun k h => h) rfl hk117 (by decide +kernel) ?_
  obtain ⟨s118, e118⟩ : ∃ s, s = pI s117 100 64 (nI 0) := ⟨_, rfl⟩
  show zS X (pI s117 100 64 (nI 0)) _ _ _ _ _
  rw [← e118]
  have f118 : frs [166, 167, 168, 169, 170] s118 := by
    rw [e118]
    exact frs_I f117 _ _ _
  have hk118 : s118.1 100 = 14 := by
    rw [e118]
    exact hk117
  refine bk hX lkX12_ok (pc' := 519) [.aload_n 0, .bipush 20] (by decide +kernel) (And.intro trivial ?_)
  refine z_newa hX (atype := .int) (t := 2) (by decide) rfl ka_int 166 (f118 _ List.mem_cons_self) (len := 20) (by decide) (by decide) (by decide) (by decide +kernel) (by omega) (by omega) ?_
  obtain ⟨s119, e119⟩ : ∃ s, s = zNewA s118 166 2 20 := ⟨_, rfl⟩
  show zS X (zNewA s118 166 2 20) _ _ _ _ _
  rw [← e119]
  have f119 : frs [167, 168, 169, 170] s119 := by
    rw [e119]
    exact frs_A f118 (by decide) _ _
  have hk119 : s119.1 100 = 14 := by
    rw [e119]
    exact kA hk118 (by decide) _ _
  refine z_pR hX liX12_ok (ini := true) (fun _ => liX12_i) 208 13 65 (fun k h => h) rfl hk119 (by decide +kernel) ?_
  obtain ⟨s120, e120⟩ : ∃ s, s = pR s119 100 65 (some 166) := ⟨_, rfl⟩
  show zS X (pR s119 100 65 (some 166)) _ _ _ _ _
  rw [← e120]
  have f120 : frs [167, 168, 169, 170] s120 := by
    rw [e120]
    exact frs_R f119 _ _ _
  have hk120 : s120.1 100 = 14 := by
    rw [e120]
    exact hk119
  refine bk hX lkX12_ok (pc' := 527) [.aload_n 0, .bipush 6] (by decide +kernel) (And.intro trivial ?_)
  refine z_newa hX (atype := .int) (t := 2) (by decide) rfl ka_int 167 (f120 _ List.mem_cons_self) (len := 6) (by decide) (by decide) (by decide) (by decide +kernel) (by omega) (by omega) ?_
  obtain ⟨s121, e121⟩ : ∃ s, s = zNewA s120 167 2 6 := ⟨_, rfl⟩
  show zS X (zNewA s120 167 2 6) _ _ _ _ _
  rw [← e121]
  have f121 : frs [168, 169, 170] s121 := by
    rw [e121]
    exact frs_A f120 (by decide) _ _
  have hk121 : s121.1 100 = 14 := by
    rw [e121]
    exact kA hk120 (by decide) _ _
  have ha121 : s121.1 167 = 22 := by
    rw [e121]
    exact kA1 _ _ _ _
  have hn121 : s121.2.1 167 = 6 := by
    rw [e121]
    exact nA1 _ _ _ _
  refine bk hX lkX12_ok (pc' := 532) [.dup, .iconst 0, .iconst (Int.negSucc 0)] (by decide +kernel) (And.intro trivial ?_)
  refine z_iast hX liX12_ok ha121 (by rw [hn121]; exact vp_in_nI (by decide) (by decide)) (by decide +kernel) ?_
  obtain ⟨s122, e122⟩ : ∃ s, s = pI s121 167 0 (-nI 1) := ⟨_, rfl⟩
  show zS X (pI s121 167 0 (-nI 1)) _ _ _ _ _
  rw [← e122]
  have f122 : frs [168, 169, 170] s122 := by
    rw [e122]
    exact frs_I f121 _ _ _
  have hk122 : s122.1 100 = 14 := by
    rw [e122]
    exact hk121
  have ha122 : s122.1 167 = 22 := by
    rw [e122]
    exact ha121
  have hn122 : s122.2.1 167 = 6 := by
    rw [e122]
    exact hn121
  refine bk hX lkX12_ok (pc' := 536) [.dup, .iconst 1, .iconst (Int.negSucc 0)] (by decide +kernel) (And.intro trivial ?_)
  refine z_iast hX liX12_ok ha122 (by rw [hn122]; exact vp_in_nI (by decide) (by decide)) (by decide +kernel) ?_
  obtain ⟨s123, e123⟩ : ∃ s, s = pI s122 167 1 (-nI 1) := ⟨_, rfl⟩
  show zS X (pI s122 167 1 (-nI 1)) _ _ _ _ _
  rw [← e123]
  have f123 : frs [168, 169, 170] s123 := by
    rw [e123]
    exact frs_I f122 _ _ _
  have hk123 : s123.1 100 = 14 := by
    rw [e123]
    exact hk122
  have ha123 : s123.1 167 = 22 := by
    rw [e123]
    exact ha122
  have hn123 : s123.2.1 167 = 6 := by
    rw [e123]
    exact hn122
  refine bk hX lkX12_ok (pc' := 540) [.dup, .iconst 2, .iconst (Int.negSucc 0)] (by decide +kernel) (And.intro trivial ?_)
  refine z_iast hX liX12_ok ha123 (by rw [hn123]; exact vp_in_nI (by decide) (by decide)) (by decide +kernel) ?_
  obtain ⟨s124, e124⟩ : ∃ s, s = pI s123 167 2 (-nI 1) := ⟨_, rfl⟩
  show zS X (pI s123 167 2 (-nI 1)) _ _ _ _ _
  rw [← e124]
  have f124 : frs [168, 169, 170] s124 := by
    rw [e124]
    exact frs_I f123 _ _ _
  have hk124 : s124.1 100 = 14 := by
    rw [e124]
    exact hk123
  have ha124 : s124.1 167 = 22 := by
    rw [e124]
    exact ha123
  have hn124 : s124.2.1 167 = 6 := by
    rw [e124]
    exact hn123
  refine bk hX lkX12_ok (pc' := 544) [.dup, .iconst 3, .iconst (Int.negSucc 0)] (by decide +kernel) (And.intro trivial ?_)
  refine z_iast hX liX12_ok ha124 (by rw [hn124]; exact vp_in_nI (by decide) (by decide)) (by decide +kernel) ?_
  obtain ⟨s125, e125⟩ : ∃ s, s = pI s124 167 3 (-nI 1) := ⟨_, rfl⟩
  show zS X (pI s124 167 3 (-nI 1)) _ _ _ _ _
  rw [← e125]
  have f125 : frs [168, 169, 170] s125 := by
    rw [e125]
    exact frs_I f124 _ _ _
  have hk125 : s125.1 100 = 14 := by
    rw [e125]
    exact hk124
  have ha125 : s125.1 167 = 22 := by
    rw [e125]
    exact ha124
  have hn125 : s125.2.1 167 = 6 := by
    rw [e125]
    exact hn124
  refine bk hX lkX12_ok (pc' := 548) [.dup, .iconst 4, .iconst (Int.negSucc 0)] (by decide +kernel) (And.intro trivial ?_)
  refine z_iast hX liX12_ok ha125 (by rw [hn125]; exact vp_in_nI (by decide) (by decide)) (by decide +kernel) ?_
  obtain ⟨s126, e126⟩ : ∃ s, s = pI s125 167 4 (-nI 1) := ⟨_, rfl⟩
  show zS X (pI s125 167 4 (-nI 1)) _ _ _ _ _
  rw [← e126]
  have f126 : frs [168, 169, 170] s126 := by
    rw [e126]
    exact frs_I f125 _ _ _
  have hk126 : s126.1 100 = 14 := by
    rw [e126]
    exact hk125
  have ha126 : s126.1 167 = 22 := by
    rw [e126]
    exact ha125
  have hn126 : s126.2.1 167 = 6 := by
    rw [e126]
    exact hn125
  refine bk hX lkX12_ok (pc' := 552) [.dup, .iconst 5, .iconst (Int.negSucc 0)] (by decide +kernel) (And.intro trivial ?_)
  refine z_iast hX liX12_ok ha126 (by rw [hn126]; exact vp_in_nI (by decide) (by decide)) (by decide +kernel) ?_
  obtain ⟨s127, e127⟩ : ∃ s, s = pI s126 167 5 (-nI 1) := ⟨_, rfl⟩
  show zS X (pI s126 167 5 (-nI 1)) _ _ _ _ _
  rw [← e127]
  have f127 : frs [168, 169, 170] s127 := by
    rw [e127]
    exact frs_I f126 _ _ _
  have hk127 : s127.1 100 = 14 := by
    rw [e127]
    exact hk126
  have ha127 : s127.1 167 = 22 := by
    rw [e127]
    exact ha126
  have hn127 : s127.2.1 167 = 6 := by
    rw [e127]
    exact hn126
  refine z_pR hX liX12_ok (ini := true) (fun _ => liX12_i) 211 13 66 (fun k h => h) rfl hk127 (by decide +kernel) ?_
  obtain ⟨s128, e128⟩ : ∃ s, s = pR s127 100 66 (some 167) := ⟨_, rfl⟩
  show zS X (pR s127 100 66 (some 167)) _ _ _ _ _
  rw [← e128]
  have f128 : frs [168, 169, 170] s128 := by
    rw [e128]
    exact frs_R f127 _ _ _
  have hk128 : s128.1 100 = 14 := by
    rw [e128]
    exact hk127
  refine bk hX lkX12_ok (pc' := 559) [.aload_n 0, .bipush 6] (by decide +kernel) (And.intro trivial ?_)
  refine z_newa hX (atype := .int) (t := 2) (by decide) rfl ka_int 168 (f128 _ List.mem_cons_self) (len := 6) (by decide) (by decide) (by decide) (by decide +kernel) (by omega) (by omega) ?_
  obtain ⟨s129, e129⟩ : ∃ s, s = zNewA s128 168 2 6 := ⟨_, rfl⟩
  show zS X (zNewA s128 168 2 6) _ _ _ _ _
  rw [← e129]
  have f129 : frs [169, 170] s129 := by
    rw [e129]
    exact frs_A f128 (by decide) _ _
  have hk129 : s129.1 100 = 14 := by
    rw [e129]
    exact kA hk128 (by decide) _ _
  refine z_pR hX liX12_ok (ini := true) (fun _ => liX12_i) 214 13 67 (fun k h => h) rfl hk129 (by decide +kernel) ?_
  obtain ⟨s130, e130⟩ : ∃ s, s = pR s129 100 67 (some 168) := ⟨_, rfl⟩
  show zS X (pR s129 100 67 (some 168)) _ _ _ _ _
  rw [← e130]
  have f130 : frs [169, 170] s130 := by
    rw [e130]
    exact frs_R f129 _ _ _
  have hk130 : s130.1 100 = 14 := by
    rw [e130]
    exact hk129
  refine bk hX lkX12_ok (pc' := 568) [.aload_n 0, .sipush 360] (by decide +kernel) (And.intro trivial ?_)
  refine z_newa hX (atype := .long) (t := 3) (by decide) rfl ka_long 169 (f130 _ List.mem_cons_self) (len := 360) (by decide) (by decide) (by decide) (by decide +kernel) (by omega) (by omega) ?_
  obtain ⟨s131, e131⟩ : ∃ s, s = zNewA s130 169 3 360 := ⟨_, rfl⟩
  show zS X (zNewA s130 169 3 360) _ _ _ _ _
  rw [← e131]
  have f131 : frs [170] s131 := by
    rw [e131]
    exact frs_A f130 (by decide) _ _
  have hk131 : s131.1 100 = 14 := by
    rw [e131]
    exact kA hk130 (by decide) _ _
  refine z_pR hX liX12_ok (ini := true) (fun _ => liX12_i) 217 13 68 (fun k h => h) rfl hk131 (by decide +kernel) ?_
  obtain ⟨s132, e132⟩ : ∃ s, s = pR s131 100 68 (some 169) := ⟨_, rfl⟩
  show zS X (pR s131 100 68 (some 169)) _ _ _ _ _
  rw [← e132]
  have f132 : frs [170] s132 := by
    rw [e132]
    exact frs_R f131 _ _ _
  have hk132 : s132.1 100 = 14 := by
    rw [e132]
    exact hk131
  refine bk hX lkX12_ok (pc' := 576) [.aload_n 0, .bipush 60] (by decide +kernel) (And.intro trivial ?_)
  refine z_newa hX (atype := .long) (t := 3) (by decide) rfl ka_long 170 (f132 _ List.mem_cons_self) (len := 60) (by decide) (by decide) (by decide) (by decide +kernel) (by omega) (by omega) ?_
  obtain ⟨s133, e133⟩ : ∃ s, s = zNewA s132 170 3 60 := ⟨_, rfl⟩
  show zS X (zNewA s132 170 3 60) _ _ _ _ _
  rw [← e133]
  have f133 : frs [] s133 := by
    rw [e133]
    exact frs_A f132 (by decide) _ _
  have hk133 : s133.1 100 = 14 := by
    rw [e133]
    exact kA hk132 (by decide) _ _
  refine z_pR hX liX12_ok (ini := true) (fun _ => liX12_i) 221 13 69 (fun k h => h) rfl hk133 (by decide +kernel) ?_
  obtain ⟨s134, e134⟩ : ∃ s, s = pR s133 100 69 (some 170) := ⟨_, rfl⟩
  show zS X (pR s133 100 69 (some 170)) _ _ _ _ _
  rw [← e134]
  have f134 : frs [] s134 := by
    rw [e134]
    exact frs_R f133 _ _ _
  have hk134 : s134.1 100 = 14 := by
    rw [e134]
    exact hk133
  exact z_vret hX (by decide +kernel) rfl (by omega) (by omega) (by
  refine ⟨?_, rfl⟩
  rw [e134, e133, e132, e131, e130, e129, e128, e127, e126, e125, e124, e123, e122, e121, e120, e119, e118, e117, e116, e115, e114, e113, e112, e111, e110, e109, e108, e107, e106, e105, e104, e103, e102, e101, e100, e99, e98, e97, e96, e95, e94, e93, e92, e91, e90, e89, e88, e87, e86, e85, e84, e83, e82, e81, e80, e79, e78, e77, e76, e75, e74, e73, e72, e71, e70, e69, e68, e67, e66, e65, e64, e63, e62, e61, e60, e59, e58, e57, e56, e55, e54, e53, e52, e51, e50, e49, e48, e47, e46, e45, e44, e43, e42, e41, e40, e39, e38, e37, e36, e35, e34, e33, e32, e31, e30, e29, e28, e27, e26, e25, e24, e23, e22, e21, e20, e19, e18, e17, e16, e15, e14, e13, e12, e11, e10, e9, e8, e7, e6, e5, e4, e3, e2, e1]
  rfl)
