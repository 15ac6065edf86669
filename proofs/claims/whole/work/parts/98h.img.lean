/-! ===== image and undo: the calls; by program (img2.py) ===== -/
section IMC
variable {N : Nat} {w u z : gW}
set_option maxHeartbeats 2000000 in
theorem c_Mund215 (hN : 1000 ≤ N) (hL : Lay w) : ok (f_M_undo_l215 N 133 0 w) (fun r u => r = gI w 133 0 ∧ Fr [164, 165] [] w u ∧ cpd w u 164 175 8 ∧ cpd w u 165 176 8) := by
  unfold f_M_undo_l215
  refine cp_many (P := [(164, 175), (165, 176)]) (D := [164, 165]) (n := 8) (by omega) (by omega) (fun t ht => ?_) hL (fun rec u a1 k h1 hk hLu hh => ?_) (fun rec u a1 h1 hLu f e => ?_)
  · simp only [List.mem_cons, List.not_mem_nil, or_false] at ht
    rcases ht with rfl | rfl <;> exact ⟨by decide, by simp⟩
  · have hm := lay_I hLu
    have hj := lay_J hLu
    have n1 := nat_of h1
    have g1 := ix_of (m := 8) h1 hk
    rw [n1] at g1
    unfold f_M_undo_b215
    refine ok_cdf (by rw [ti_le, h1, ti_8i]; omega) ?_
    simp only [ok_gd, ok_bd, ok_rr1, ok_nr0, ok_nr1, ok_ret, true_and, and_true, not_false_eq_true, sh_sI, sh_sR, sh_sL, gR_sI, gR_sL, gI_sR, gI_sL, sh_cI, gR_cI, hm, hj, n1, g1]
    refine hh _ (Fr_sI (Fr_sI Fr.rf (by simp)) (by simp)) (fun t ht j => ?_)
    simp only [List.mem_cons, List.not_mem_nil, or_false] at ht
    rcases ht with rfl | rfl <;> simp only [gI_sI] <;> by_cases ej : j = k <;> simp [ej]
  · have hm := lay_I hLu
    unfold f_M_undo_b215
    refine ok_cdt (by rw [ti_le, h1, ti_8i]; decide) ?_
    simp only [ok_gd, ok_bd, ok_rr1, ok_nr0, ok_nr1, ok_ret, true_and, and_true, not_false_eq_true, sh_sI, sh_sR, sh_sL, gR_sI, gR_sL, gI_sR, gI_sL, sh_cI, gR_cI, hm]
    exact ⟨f.i ⟨by decide, by simp⟩, f, e (164, 175) (by simp), e (165, 176) (by simp)⟩
set_option maxHeartbeats 2000000 in
theorem c_Mund189 (hN : 1000 ≤ N) (hL : Lay w) : ok (f_M_undo_l189 N 133 0 w) (fun r u => r = gI w 133 0 ∧ Fr [140, 164, 165] [] w u ∧ cpd w u 140 171 6 ∧ cpd w u 164 175 8 ∧ cpd w u 165 176 8) := by
  unfold f_M_undo_l189
  refine cp_many (P := [(140, 171)]) (D := [140]) (n := 6) (by omega) (by omega) (fun t ht => ?_) hL (fun rec u a1 k h1 hk hLu hh => ?_) (fun rec u a1 h1 hLu f e => ?_)
  · simp only [List.mem_cons, List.not_mem_nil, or_false] at ht
    subst ht; exact ⟨by decide, by simp⟩
  · have hm := lay_I hLu
    have hj := lay_J hLu
    have n1 := nat_of h1
    have g1 := ix_of (m := 6) h1 hk
    rw [n1] at g1
    unfold f_M_undo_b189
    refine ok_cdf (by rw [ti_le, h1, ti_6]; omega) ?_
    simp only [ok_gd, ok_bd, ok_rr1, ok_nr0, ok_nr1, ok_ret, true_and, and_true, not_false_eq_true, sh_sI, sh_sR, sh_sL, gR_sI, gR_sL, gI_sR, gI_sL, sh_cI, gR_cI, hm, hj, n1, g1]
    refine hh _ (Fr_sI Fr.rf (by simp)) (fun t ht j => ?_)
    simp only [List.mem_cons, List.not_mem_nil, or_false] at ht
    subst ht; simp only [gI_sI]; by_cases ej : j = k <;> simp [ej]
  · unfold f_M_undo_b189
    refine ok_cdt (by rw [ti_le, h1, ti_6]; decide) ?_
    refine (c_Mund215 hN hLu).mono ?_
    rintro r v ⟨hr, fv, g1, g2⟩
    have e0 := e (140, 171) (by simp)
    refine ⟨by rw [hr]; exact f.i ⟨by decide, by simp⟩, (f.up (by simp) (by simp)).tr (fv.up (by simp) (by simp)), fun j => ?_, fun j => ?_, fun j => ?_⟩
    · rw [fv.i ⟨by decide, by simp⟩]; exact e0 j
    · rw [g1 j, f.i ⟨by decide, by simp⟩, f.i ⟨by decide, by simp⟩]
    · rw [g2 j, f.i ⟨by decide, by simp⟩, f.i ⟨by decide, by simp⟩]
set_option maxHeartbeats 4000000 in
theorem c_Mund163 (hN : 1000 ≤ N) (hL : Lay w) : ok (f_M_undo_l163 N 133 0 w) (fun r u => r = gI w 133 0 ∧ Fr [139, 140, 164, 165] [] w u ∧ cpd w u 139 170 24 ∧ cpd w u 140 171 6 ∧ cpd w u 164 175 8 ∧ cpd w u 165 176 8) := by
  unfold f_M_undo_l163
  refine cp_many (P := [(139, 170)]) (D := [139]) (n := 24) (by omega) (by omega) (fun t ht => ?_) hL (fun rec u a1 k h1 hk hLu hh => ?_) (fun rec u a1 h1 hLu f e => ?_)
  · simp only [List.mem_cons, List.not_mem_nil, or_false] at ht
    rcases ht with rfl <;> exact ⟨by decide, by simp⟩
  · have hm := lay_I hLu
    have hj := lay_J hLu
    have n1 := nat_of h1
    have g1 := ix_of (m := 24) h1 hk
    rw [n1] at g1
    unfold f_M_undo_b163
    refine ok_cdf (by rw [ti_le, h1, ti_24i]; omega) ?_
    simp only [ok_gd, ok_bd, ok_rr1, ok_nr0, ok_nr1, ok_ret, true_and, and_true, not_false_eq_true, sh_sI, sh_sR, sh_sL, gR_sI, gR_sL, gI_sR, gI_sL, sh_cI, gR_cI, hm, hj, n1, g1]
    refine hh _ (Fr_sI Fr.rf (by simp)) (fun t ht j => ?_)
    simp only [List.mem_cons, List.not_mem_nil, or_false] at ht
    rcases ht with rfl <;> simp only [gI_sI] <;> by_cases ej : j = k <;> simp [ej]
  · unfold f_M_undo_b163
    refine ok_cdt (by rw [ti_le, h1, ti_24i]; decide) ?_
    refine (c_Mund189 hN hLu).mono ?_
    rintro r v ⟨hr, fv, g0, g1, g2⟩
    refine ⟨by rw [hr]; exact f.i ⟨by decide, by simp⟩, (f.up (by simp) (by simp)).tr (fv.up (by simp) (by simp)), fun j => ?_, fun j => ?_, fun j => ?_, fun j => ?_⟩
    · rw [fv.i ⟨by decide, by simp⟩]; exact e (139, 170) (by simp) j
    · rw [g0 j, f.i ⟨by decide, by simp⟩, f.i ⟨by decide, by simp⟩]
    · rw [g1 j, f.i ⟨by decide, by simp⟩, f.i ⟨by decide, by simp⟩]
    · rw [g2 j, f.i ⟨by decide, by simp⟩, f.i ⟨by decide, by simp⟩]
set_option maxHeartbeats 4000000 in
theorem c_Mund137 (hN : 1000 ≤ N) (hL : Lay w) : ok (f_M_undo_l137 N 133 0 w) (fun r u => r = gI w 133 0 ∧ Fr [138, 139, 140, 164, 165] [] w u ∧ cpd w u 138 169 16 ∧ cpd w u 139 170 24 ∧ cpd w u 140 171 6 ∧ cpd w u 164 175 8 ∧ cpd w u 165 176 8) := by
  unfold f_M_undo_l137
  refine cp_many (P := [(138, 169)]) (D := [138]) (n := 16) (by omega) (by omega) (fun t ht => ?_) hL (fun rec u a1 k h1 hk hLu hh => ?_) (fun rec u a1 h1 hLu f e => ?_)
  · simp only [List.mem_cons, List.not_mem_nil, or_false] at ht
    rcases ht with rfl <;> exact ⟨by decide, by simp⟩
  · have hm := lay_I hLu
    have hj := lay_J hLu
    have n1 := nat_of h1
    have g1 := ix_of (m := 16) h1 hk
    rw [n1] at g1
    unfold f_M_undo_b137
    refine ok_cdf (by rw [ti_le, h1, ti_16']; omega) ?_
    simp only [ok_gd, ok_bd, ok_rr1, ok_nr0, ok_nr1, ok_ret, true_and, and_true, not_false_eq_true, sh_sI, sh_sR, sh_sL, gR_sI, gR_sL, gI_sR, gI_sL, sh_cI, gR_cI, hm, hj, n1, g1]
    refine hh _ (Fr_sI Fr.rf (by simp)) (fun t ht j => ?_)
    simp only [List.mem_cons, List.not_mem_nil, or_false] at ht
    rcases ht with rfl <;> simp only [gI_sI] <;> by_cases ej : j = k <;> simp [ej]
  · unfold f_M_undo_b137
    refine ok_cdt (by rw [ti_le, h1, ti_16']; decide) ?_
    refine (c_Mund163 hN hLu).mono ?_
    rintro r v ⟨hr, fv, g0, g1, g2, g3⟩
    refine ⟨by rw [hr]; exact f.i ⟨by decide, by simp⟩, (f.up (by simp) (by simp)).tr (fv.up (by simp) (by simp)), fun j => ?_, fun j => ?_, fun j => ?_, fun j => ?_, fun j => ?_⟩
    · rw [fv.i ⟨by decide, by simp⟩]; exact e (138, 169) (by simp) j
    · rw [g0 j, f.i ⟨by decide, by simp⟩, f.i ⟨by decide, by simp⟩]
    · rw [g1 j, f.i ⟨by decide, by simp⟩, f.i ⟨by decide, by simp⟩]
    · rw [g2 j, f.i ⟨by decide, by simp⟩, f.i ⟨by decide, by simp⟩]
    · rw [g3 j, f.i ⟨by decide, by simp⟩, f.i ⟨by decide, by simp⟩]
set_option maxHeartbeats 4000000 in
theorem c_Mund52 (hN : 1000 ≤ N) (hL : Lay w) : ok (f_M_undo_l52 N 133 0 w) (fun r u => r = gI w 133 0 ∧ Fr [135, 136, 137, 161, 162, 163, 138, 139, 140, 164, 165] [] w u ∧ cpd w u 135 166 4 ∧ cpd w u 136 167 4 ∧ cpd w u 137 168 4 ∧ cpd w u 161 172 4 ∧ cpd w u 162 173 4 ∧ cpd w u 163 174 4 ∧ cpd w u 138 169 16 ∧ cpd w u 139 170 24 ∧ cpd w u 140 171 6 ∧ cpd w u 164 175 8 ∧ cpd w u 165 176 8) := by
  unfold f_M_undo_l52
  refine cp_many (P := [(135, 166), (136, 167), (137, 168), (161, 172), (162, 173), (163, 174)]) (D := [135, 136, 137, 161, 162, 163]) (n := 4) (by omega) (by omega) (fun t ht => ?_) hL (fun rec u a1 k h1 hk hLu hh => ?_) (fun rec u a1 h1 hLu f e => ?_)
  · simp only [List.mem_cons, List.not_mem_nil, or_false] at ht
    rcases ht with rfl | rfl | rfl | rfl | rfl | rfl <;> exact ⟨by decide, by simp⟩
  · have hm := lay_I hLu
    have hj := lay_J hLu
    have n1 := nat_of h1
    have g1 := ix_of (m := 4) h1 hk
    rw [n1] at g1
    unfold f_M_undo_b52
    refine ok_cdf (by rw [ti_le, h1, ti_4i]; omega) ?_
    simp only [ok_gd, ok_bd, ok_rr1, ok_nr0, ok_nr1, ok_ret, true_and, and_true, not_false_eq_true, sh_sI, sh_sR, sh_sL, gR_sI, gR_sL, gI_sR, gI_sL, sh_cI, gR_cI, hm, hj, n1, g1]
    refine hh _ (Fr_sI (Fr_sI (Fr_sI (Fr_sI (Fr_sI (Fr_sI Fr.rf (by simp)) (by simp)) (by simp)) (by simp)) (by simp)) (by simp)) (fun t ht j => ?_)
    simp only [List.mem_cons, List.not_mem_nil, or_false] at ht
    rcases ht with rfl | rfl | rfl | rfl | rfl | rfl <;> simp only [gI_sI] <;> by_cases ej : j = k <;> simp [ej]
  · unfold f_M_undo_b52
    refine ok_cdt (by rw [ti_le, h1, ti_4i]; decide) ?_
    refine (c_Mund137 hN hLu).mono ?_
    rintro r v ⟨hr, fv, g0, g1, g2, g3, g4⟩
    refine ⟨by rw [hr]; exact f.i ⟨by decide, by simp⟩, (f.up (by simp) (by simp)).tr (fv.up (by simp) (by simp)), fun j => ?_, fun j => ?_, fun j => ?_, fun j => ?_, fun j => ?_, fun j => ?_, fun j => ?_, fun j => ?_, fun j => ?_, fun j => ?_, fun j => ?_⟩
    · rw [fv.i ⟨by decide, by simp⟩]; exact e (135, 166) (by simp) j
    · rw [fv.i ⟨by decide, by simp⟩]; exact e (136, 167) (by simp) j
    · rw [fv.i ⟨by decide, by simp⟩]; exact e (137, 168) (by simp) j
    · rw [fv.i ⟨by decide, by simp⟩]; exact e (161, 172) (by simp) j
    · rw [fv.i ⟨by decide, by simp⟩]; exact e (162, 173) (by simp) j
    · rw [fv.i ⟨by decide, by simp⟩]; exact e (163, 174) (by simp) j
    · rw [g0 j, f.i ⟨by decide, by simp⟩, f.i ⟨by decide, by simp⟩]
    · rw [g1 j, f.i ⟨by decide, by simp⟩, f.i ⟨by decide, by simp⟩]
    · rw [g2 j, f.i ⟨by decide, by simp⟩, f.i ⟨by decide, by simp⟩]
    · rw [g3 j, f.i ⟨by decide, by simp⟩, f.i ⟨by decide, by simp⟩]
    · rw [g4 j, f.i ⟨by decide, by simp⟩, f.i ⟨by decide, by simp⟩]

theorem image_fr {x0 x1 x2 x3 x4 x5 : Int32} : Fr [] [(133, 49), (133, 50), (133, 51), (133, 52), (133, 53), (133, 54)] w (sI (sI (sI (sI (sI (sI w 133 49 x0) 133 50 x1) 133 51 x2) 133 52 x3) 133 53 x4) 133 54 x5) := (Fr_sI (Fr_sI (Fr_sI (Fr_sI (Fr_sI (Fr_sI Fr.rf (by simp)) (by simp)) (by simp)) (by simp)) (by simp)) (by simp))
set_option maxHeartbeats 2000000 in
theorem c_Mimage (hN : 1000 ≤ N) (hL : Lay w) : ok (f_M_image N 133 w) (fun r u => r = gI w 133 0 ∧ Fr [166, 167, 168, 172, 173, 174, 169, 170, 171, 175, 176] [(133, 49), (133, 50), (133, 51), (133, 52), (133, 53), (133, 54)] w u ∧ gI u 133 49 = 1 ∧ gI u 133 50 = gI w 133 9 ∧ gI u 133 51 = gI w 133 0 ∧ gI u 133 52 = gI w 133 41 ∧ gI u 133 53 = gI w 133 43 ∧ gI u 133 54 = gI w 133 46 ∧ (∀ k, k < 4 → gI u 166 k = gI w 135 k) ∧ (∀ k, k < 4 → gI u 167 k = gI w 136 k) ∧ (∀ k, k < 4 → gI u 168 k = gI w 137 k) ∧ (∀ k, k < 4 → gI u 172 k = gI w 161 k) ∧ (∀ k, k < 4 → gI u 173 k = gI w 162 k) ∧ (∀ k, k < 4 → gI u 174 k = gI w 163 k) ∧ (∀ k, k < 16 → gI u 169 k = gI w 138 k) ∧ (∀ k, k < 24 → gI u 170 k = gI w 139 k) ∧ (∀ k, k < 6 → gI u 171 k = gI w 140 k) ∧ (∀ k, k < 8 → gI u 175 k = gI w 164 k) ∧ (∀ k, k < 8 → gI u 176 k = gI w 165 k)) := by
  have hm := lay_I hL
  unfold f_M_image f_M_image_b0
  simp only [ok_gd, ok_bd, ok_rr1, ok_nr0, ok_nr1, ok_ret, true_and, and_true, not_false_eq_true, sh_sI, sh_sR, sh_sL, gR_sI, gR_sL, gI_sR, gI_sL, sh_cI, gR_cI, hm]
  refine (c_Mimg47 hN (image_fr.lay hL)).mono ?_
  rintro r z ⟨hr, f, g0, g1, g2, g3, g4, g5, g6, g7, g8, g9, g10⟩
  refine ⟨?_, (image_fr.up (by simp) (by simp)).tr (f.up (by simp) (by simp)), ?_, ?_, ?_, ?_, ?_, ?_, ?_, ?_, ?_, ?_, ?_, ?_, ?_, ?_, ?_, ?_, ?_⟩
  · rw [hr]; simp [gI_sI]
  · rw [f.i ⟨by decide, by simp⟩]; simp [gI_sI]
  · rw [f.i ⟨by decide, by simp⟩]; simp [gI_sI]
  · rw [f.i ⟨by decide, by simp⟩]; simp [gI_sI]
  · rw [f.i ⟨by decide, by simp⟩]; simp [gI_sI]
  · rw [f.i ⟨by decide, by simp⟩]; simp [gI_sI]
  · rw [f.i ⟨by decide, by simp⟩]; simp [gI_sI]
  · intro k hk; rw [g0 k, if_pos hk]; exact image_fr.i ⟨by simp, by simp⟩
  · intro k hk; rw [g1 k, if_pos hk]; exact image_fr.i ⟨by simp, by simp⟩
  · intro k hk; rw [g2 k, if_pos hk]; exact image_fr.i ⟨by simp, by simp⟩
  · intro k hk; rw [g3 k, if_pos hk]; exact image_fr.i ⟨by simp, by simp⟩
  · intro k hk; rw [g4 k, if_pos hk]; exact image_fr.i ⟨by simp, by simp⟩
  · intro k hk; rw [g5 k, if_pos hk]; exact image_fr.i ⟨by simp, by simp⟩
  · intro k hk; rw [g6 k, if_pos hk]; exact image_fr.i ⟨by simp, by simp⟩
  · intro k hk; rw [g7 k, if_pos hk]; exact image_fr.i ⟨by simp, by simp⟩
  · intro k hk; rw [g8 k, if_pos hk]; exact image_fr.i ⟨by simp, by simp⟩
  · intro k hk; rw [g9 k, if_pos hk]; exact image_fr.i ⟨by simp, by simp⟩
  · intro k hk; rw [g10 k, if_pos hk]; exact image_fr.i ⟨by simp, by simp⟩
theorem undo_fr {x0 x1 x2 x3 x4 : Int32} : Fr [] [(133, 9), (133, 0), (133, 41), (133, 43), (133, 46)] w (sI (sI (sI (sI (sI w 133 9 x0) 133 0 x1) 133 41 x2) 133 43 x3) 133 46 x4) := (Fr_sI (Fr_sI (Fr_sI (Fr_sI (Fr_sI Fr.rf (by simp)) (by simp)) (by simp)) (by simp)) (by simp))
set_option maxHeartbeats 2000000 in
theorem c_Mundo (hN : 1000 ≤ N) (hL : Lay w) (h49 : ¬ gI w 133 49 = 0) : ok (f_M_undo N 133 w) (fun r u => r = gI w 133 51 ∧ Fr [135, 136, 137, 161, 162, 163, 138, 139, 140, 164, 165] [(133, 9), (133, 0), (133, 41), (133, 43), (133, 46)] w u ∧ gI u 133 9 = gI w 133 50 ∧ gI u 133 0 = gI w 133 51 ∧ gI u 133 41 = gI w 133 52 ∧ gI u 133 43 = gI w 133 53 ∧ gI u 133 46 = gI w 133 54 ∧ (∀ k, k < 4 → gI u 135 k = gI w 166 k) ∧ (∀ k, k < 4 → gI u 136 k = gI w 167 k) ∧ (∀ k, k < 4 → gI u 137 k = gI w 168 k) ∧ (∀ k, k < 4 → gI u 161 k = gI w 172 k) ∧ (∀ k, k < 4 → gI u 162 k = gI w 173 k) ∧ (∀ k, k < 4 → gI u 163 k = gI w 174 k) ∧ (∀ k, k < 16 → gI u 138 k = gI w 169 k) ∧ (∀ k, k < 24 → gI u 139 k = gI w 170 k) ∧ (∀ k, k < 6 → gI u 140 k = gI w 171 k) ∧ (∀ k, k < 8 → gI u 164 k = gI w 175 k) ∧ (∀ k, k < 8 → gI u 165 k = gI w 176 k)) := by
  have hm := lay_I hL
  unfold f_M_undo f_M_undo_b0
  simp only [ok_gd, true_and, hm, ok_bd]
  refine ok_cdf h49 ?_
  simp only [ok_gd, ok_bd, ok_rr1, ok_nr0, ok_nr1, ok_ret, true_and, and_true, not_false_eq_true, sh_sI, sh_sR, sh_sL, gR_sI, gR_sL, gI_sR, gI_sL, sh_cI, gR_cI, hm]
  refine (c_Mund52 hN (undo_fr.lay hL)).mono ?_
  rintro r z ⟨hr, f, g0, g1, g2, g3, g4, g5, g6, g7, g8, g9, g10⟩
  refine ⟨?_, (undo_fr.up (by simp) (by simp)).tr (f.up (by simp) (by simp)), ?_, ?_, ?_, ?_, ?_, ?_, ?_, ?_, ?_, ?_, ?_, ?_, ?_, ?_, ?_, ?_⟩
  · rw [hr]; simp [gI_sI]
  · rw [f.i ⟨by decide, by simp⟩]; simp [gI_sI]
  · rw [f.i ⟨by decide, by simp⟩]; simp [gI_sI]
  · rw [f.i ⟨by decide, by simp⟩]; simp [gI_sI]
  · rw [f.i ⟨by decide, by simp⟩]; simp [gI_sI]
  · rw [f.i ⟨by decide, by simp⟩]; simp [gI_sI]
  · intro k hk; rw [g0 k, if_pos hk]; exact undo_fr.i ⟨by simp, by simp⟩
  · intro k hk; rw [g1 k, if_pos hk]; exact undo_fr.i ⟨by simp, by simp⟩
  · intro k hk; rw [g2 k, if_pos hk]; exact undo_fr.i ⟨by simp, by simp⟩
  · intro k hk; rw [g3 k, if_pos hk]; exact undo_fr.i ⟨by simp, by simp⟩
  · intro k hk; rw [g4 k, if_pos hk]; exact undo_fr.i ⟨by simp, by simp⟩
  · intro k hk; rw [g5 k, if_pos hk]; exact undo_fr.i ⟨by simp, by simp⟩
  · intro k hk; rw [g6 k, if_pos hk]; exact undo_fr.i ⟨by simp, by simp⟩
  · intro k hk; rw [g7 k, if_pos hk]; exact undo_fr.i ⟨by simp, by simp⟩
  · intro k hk; rw [g8 k, if_pos hk]; exact undo_fr.i ⟨by simp, by simp⟩
  · intro k hk; rw [g9 k, if_pos hk]; exact undo_fr.i ⟨by simp, by simp⟩
  · intro k hk; rw [g10 k, if_pos hk]; exact undo_fr.i ⟨by simp, by simp⟩
set_option maxRecDepth 20000 in
set_option maxHeartbeats 2000000 in
theorem p_image (hN : 1000 ≤ N) (h : Sim w) : ok (f_X_image N 0 w) (fun r w1 => ok (f_M_image N 133 w1) (fun r' w2 => r = r' ∧ Sim w2)) := by
  have hx := lay_X h.1
  have h28 : sh w 28 = (9, 0) := h.1.1 28 (by decide)
  have h14 := h.2.1.atwn
  unfold S_atwn twn at h14
  unfold f_X_image f_X_image_b0
  simp only [ok_gd, ok_bd, ok_rr1, ok_nr0, ok_nr1, ok_ret, true_and, and_true, not_false_eq_true, sh_sI, sh_sR, sh_sL, gR_sI, gR_sL, gI_sR, gI_sL, sh_cI, gR_cI, hx, h28]
  refine ok_call (c_become hN h.1 (Or.inl rfl) (Or.inr (Or.inl rfl)) (by decide) (fun q o hq ho => (h.2.1.apyo q o hq ho).2.2) h14) ?_
  rintro - u ⟨f, hb, hr⟩
  have hx1 := lay_X (f.lay h.1)
  simp only [ok_gd, ok_bd, ok_rr1, ok_nr0, ok_nr1, ok_ret, true_and, and_true, not_false_eq_true, sh_sI, sh_sR, sh_sL, gR_sI, gR_sL, gI_sR, gI_sL, sh_cI, gR_cI, hx1]
  have f' : Fr (VT 28) [(0, 4)] w (sI u 0 4 1) := Fr_sI (f.up (fun _ z => z) (by simp)) (by simp)
  refine (c_Mimage hN (f'.lay h.1)).mono ?_
  rintro r z ⟨hr', fz, g49, c_the, c_cnt, c_prc, c_see, c_bok, m_mk, m_mv, m_mpd, m_mpr, m_msp, m_msc, m_mrw, m_mpu, m_mti, m_mbw, m_mbp⟩
  have fu : Fr [166, 167, 168, 172, 173, 174, 169, 170, 171, 175, 176] [(0, 4), (133, 49), (133, 50), (133, 51), (133, 52), (133, 53), (133, 54)] u z := (Fr_sI Fr.rf (by simp)).tr (fz.up (by simp) (by simp))
  have ho : ∀ a, 28 ≤ a → a ≤ 46 → oP [166, 167, 168, 172, 173, 174, 169, 170, 171, 175, 176] [(0, 4), (133, 49), (133, 50), (133, 51), (133, 52), (133, 53), (133, 54)] a := fun a h1 h2 => ⟨by simp only [List.mem_cons, List.not_mem_nil, or_false]; omega, fun c hc e => by simp only [List.mem_cons, List.not_mem_nil, or_false] at hc; rcases hc with rfl | rfl | rfl | rfl | rfl | rfl | rfl <;> simp at e <;> omega⟩
  have hb' : bcP w z 9 28 4 := fun p hp => by
    obtain ⟨g1, g2, g3, g4⟩ := hb p hp
    exact ⟨(fu.r (ho _ (by omega) (by omega))).trans g1, (fu.i (ho _ (by omega) (by omega))).trans g2, fun s hs => (fu.i (ho _ (by omega) (by omega))).trans (g3 s hs), fun s hs => (fu.i (ho _ (by omega) (by omega))).trans (g4 s hs)⟩
  have hr2 : bcR w z 9 28 := by
    obtain ⟨r1, r2, r3, r4, r5, r6, d1, d7, d10, d13, d14⟩ := hr
    exact ⟨fun s hs => (fu.i (ho _ (by omega) (by omega))).trans (r1 s hs), fun s hs => (fu.i (ho _ (by omega) (by omega))).trans (r2 s hs), fun s hs => (fu.i (ho _ (by omega) (by omega))).trans (r3 s hs), fun s hs => (fu.i (ho _ (by omega) (by omega))).trans (r4 s hs), fun s hs => (fu.i (ho _ (by omega) (by omega))).trans (r5 s hs), fun s hs => (fu.i (ho _ (by omega) (by omega))).trans (r6 s hs), (fu.i (ho _ (by omega) (by omega))).trans d1, (fu.i (ho _ (by omega) (by omega))).trans d7, (fu.i (ho _ (by omega) (by omega))).trans d10, (fu.i (ho _ (by omega) (by omega))).trans d13, (fu.r (ho _ (by omega) (by omega))).trans d14⟩
  refine ⟨?_, h.u_image ((f'.up (by decide) (by simp)).tr (fz.up (by decide) (by simp))) hb' hr2 (fun k hk => (m_mk k hk).trans (f'.i ⟨by decide, by simp⟩)) (fun k hk => (m_mv k hk).trans (f'.i ⟨by decide, by simp⟩)) (fun k hk => (m_mpd k hk).trans (f'.i ⟨by decide, by simp⟩)) (fun k hk => (m_mrw k hk).trans (f'.i ⟨by decide, by simp⟩)) (fun k hk => (m_mpu k hk).trans (f'.i ⟨by decide, by simp⟩)) (fun k hk => (m_mti k hk).trans (f'.i ⟨by decide, by simp⟩)) (fun k hk => (m_mpr k hk).trans (f'.i ⟨by decide, by simp⟩)) (fun k hk => (m_msp k hk).trans (f'.i ⟨by decide, by simp⟩)) (fun k hk => (m_msc k hk).trans (f'.i ⟨by decide, by simp⟩)) (fun k hk => (m_mbw k hk).trans (f'.i ⟨by decide, by simp⟩)) (fun k hk => (m_mbp k hk).trans (f'.i ⟨by decide, by simp⟩)) (c_the.trans (f'.i ⟨by decide, by simp⟩)) (c_cnt.trans (f'.i ⟨by decide, by simp⟩)) (c_prc.trans (f'.i ⟨by decide, by simp⟩)) (c_see.trans (f'.i ⟨by decide, by simp⟩)) (c_bok.trans (f'.i ⟨by decide, by simp⟩)) ⟨by rw [fz.i ⟨by decide, by simp⟩, gI_eq], g49⟩⟩
  rw [hr', f'.i ⟨by decide, by simp⟩, f'.i ⟨by decide, by simp⟩]; exact h.2.1.acnt
set_option maxRecDepth 20000 in
set_option maxHeartbeats 2000000 in
theorem p_undo (hN : 1000 ≤ N) (h : Sim w) : ok (f_X_undo N 0 w) (fun r w1 => ok (f_M_undo N 133 w1) (fun r' w2 => r = r' ∧ Sim w2)) := by
  have hx := lay_X h.1
  have h28 : sh w 28 = (9, 0) := h.1.1 28 (by decide)
  have h14 := h.2.1.stwn
  unfold S_stwn twn at h14
  unfold f_X_undo f_X_undo_b0
  simp only [ok_gd, true_and, hx, ok_bd]
  have him := h.2.1.img
  unfold S_img eqC at him
  rw [ok_cd]
  refine ⟨fun d => ?_, fun d => ?_⟩
  · rw [him] at d
    have hm := lay_I h.1
    refine ok_ret.mpr ?_
    unfold f_M_undo f_M_undo_b0
    simp only [ok_gd, true_and, hm, ok_bd]
    exact ok_cdt d (ok_ret.mpr ⟨rfl, h⟩)
  have d49 : ¬ gI w 133 49 = 0 := by rw [← him]; exact d
  simp only [ok_gd, ok_bd, ok_rr1, ok_nr0, ok_nr1, ok_ret, true_and, and_true, not_false_eq_true, sh_sI, sh_sR, sh_sL, gR_sI, gR_sL, gI_sR, gI_sL, sh_cI, gR_cI, hx, h28]
  refine ok_call (c_become hN h.1 (Or.inr (Or.inl rfl)) (Or.inl rfl) (by decide) (fun q o hq ho => (h.2.1.spyo q o hq ho).2.2) h14) ?_
  rintro - u ⟨f, hb, hr⟩
  have hx1 := lay_X (f.lay h.1)
  simp only [ok_gd, ok_bd, ok_rr1, ok_nr0, ok_nr1, ok_ret, true_and, and_true, not_false_eq_true, sh_sI, sh_sR, sh_sL, gR_sI, gR_sL, gI_sR, gI_sL, sh_cI, gR_cI, hx1]
  have f' : Fr (VT 9) [] w u := f
  refine (c_Mundo hN (f'.lay h.1) (by rw [f'.i ⟨by decide, by simp⟩]; exact d49)).mono ?_
  rintro r z ⟨hr', fz, c_the, c_cnt, c_prc, c_see, c_bok, m_mk, m_mv, m_mpd, m_mpr, m_msp, m_msc, m_mrw, m_mpu, m_mti, m_mbw, m_mbp⟩
  have fu : Fr [135, 136, 137, 161, 162, 163, 138, 139, 140, 164, 165] [(133, 9), (133, 0), (133, 41), (133, 43), (133, 46)] u z := fz
  have ho : ∀ a, 9 ≤ a → a ≤ 27 → oP [135, 136, 137, 161, 162, 163, 138, 139, 140, 164, 165] [(133, 9), (133, 0), (133, 41), (133, 43), (133, 46)] a := fun a h1 h2 => ⟨by simp only [List.mem_cons, List.not_mem_nil, or_false]; omega, fun c hc e => by simp only [List.mem_cons, List.not_mem_nil, or_false] at hc; rcases hc with rfl | rfl | rfl | rfl | rfl <;> simp at e <;> omega⟩
  have hb' : bcP w z 28 9 4 := fun p hp => by
    obtain ⟨g1, g2, g3, g4⟩ := hb p hp
    exact ⟨(fu.r (ho _ (by omega) (by omega))).trans g1, (fu.i (ho _ (by omega) (by omega))).trans g2, fun s hs => (fu.i (ho _ (by omega) (by omega))).trans (g3 s hs), fun s hs => (fu.i (ho _ (by omega) (by omega))).trans (g4 s hs)⟩
  have hr2 : bcR w z 28 9 := by
    obtain ⟨r1, r2, r3, r4, r5, r6, d1, d7, d10, d13, d14⟩ := hr
    exact ⟨fun s hs => (fu.i (ho _ (by omega) (by omega))).trans (r1 s hs), fun s hs => (fu.i (ho _ (by omega) (by omega))).trans (r2 s hs), fun s hs => (fu.i (ho _ (by omega) (by omega))).trans (r3 s hs), fun s hs => (fu.i (ho _ (by omega) (by omega))).trans (r4 s hs), fun s hs => (fu.i (ho _ (by omega) (by omega))).trans (r5 s hs), fun s hs => (fu.i (ho _ (by omega) (by omega))).trans (r6 s hs), (fu.i (ho _ (by omega) (by omega))).trans d1, (fu.i (ho _ (by omega) (by omega))).trans d7, (fu.i (ho _ (by omega) (by omega))).trans d10, (fu.i (ho _ (by omega) (by omega))).trans d13, (fu.r (ho _ (by omega) (by omega))).trans d14⟩
  refine ⟨?_, h.u_undo ((f'.up (by decide) (by simp)).tr (fz.up (by decide) (by simp))) hb' hr2 (fun k hk => (m_mk k hk).trans (f'.i ⟨by decide, by simp⟩)) (fun k hk => (m_mv k hk).trans (f'.i ⟨by decide, by simp⟩)) (fun k hk => (m_mpd k hk).trans (f'.i ⟨by decide, by simp⟩)) (fun k hk => (m_mrw k hk).trans (f'.i ⟨by decide, by simp⟩)) (fun k hk => (m_mpu k hk).trans (f'.i ⟨by decide, by simp⟩)) (fun k hk => (m_mti k hk).trans (f'.i ⟨by decide, by simp⟩)) (fun k hk => (m_mpr k hk).trans (f'.i ⟨by decide, by simp⟩)) (fun k hk => (m_msp k hk).trans (f'.i ⟨by decide, by simp⟩)) (fun k hk => (m_msc k hk).trans (f'.i ⟨by decide, by simp⟩)) (fun k hk => (m_mbw k hk).trans (f'.i ⟨by decide, by simp⟩)) (fun k hk => (m_mbp k hk).trans (f'.i ⟨by decide, by simp⟩)) (c_the.trans (f'.i ⟨by decide, by simp⟩)) (c_cnt.trans (f'.i ⟨by decide, by simp⟩)) (c_prc.trans (f'.i ⟨by decide, by simp⟩)) (c_see.trans (f'.i ⟨by decide, by simp⟩)) (c_bok.trans (f'.i ⟨by decide, by simp⟩))⟩
  rw [hr', hr.2.2.2.2.2.2.1, f'.i ⟨by decide, by simp⟩]; exact h.2.1.scnt
end IMC
