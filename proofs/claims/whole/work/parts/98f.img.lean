/-! ===== copies of many rows at once =====  -/
section IMG
variable {N : Nat} {w u z : gW}
theorem cp_many {F : (Nat × Int32 × gW → Option (Int32 × gW)) → Nat × Int32 × gW → Option (Int32 × gW)} {Q : Int32 → gW → Prop} {P : List (Nat × Nat)} {D : List Nat} {n : Nat} (hN : n < N) (hn : n < 1000) (hsd : ∀ t ∈ P, oP D [] t.2) (hL : Lay w)
    (step : ∀ rec u (a1 : Int32) k, a1.toInt = ((k : Nat) : Int) → k < n → Lay u → (∀ u', Fr D [] u u' → (∀ t ∈ P, ∀ j, gI u' t.1 j = if j = k then gI u t.2 k else gI u t.1 j) → ok (rec (133, a1 + 1, u')) Q) → ok (F rec (133, a1, u)) Q)
    (fin : ∀ rec u (a1 : Int32), a1.toInt = (n : Int) → Lay u → Fr D [] w u → (∀ t ∈ P, ∀ j, gI u t.1 j = if j < n then gI w t.2 j else gI w t.1 j) → ok (F rec (133, a1, u)) Q) : ok (itr F N (133, 0, w)) Q := by
  refine itr_up (fun k q => q.1 = 133 ∧ q.2.1.toInt = (k : Int) ∧ Fr D [] w q.2.2 ∧ (∀ t ∈ P, ∀ j, gI q.2.2 t.1 j = if j < k then gI w t.2 j else gI w t.1 j)) n ?_ ?_ N 0 _ (by omega) ?_ (by omega)
  · rintro rec k ⟨b0, a1, u⟩ hk ⟨e0, e1, f, e2⟩ IH
    simp only at e0 e1 f e2
    subst e0
    have k9 : k < 2147483647 := by omega
    refine step rec u a1 k e1 hk (f.lay hL) (fun u' f' h' => IH _ ?_)
    refine ⟨rfl, ti_p1 e1 k9, f.tr f', fun t ht j => ?_⟩
    simp only
    rw [h' t ht j]
    by_cases e : j = k
    · rw [if_pos e, if_pos (by omega), f.i (hsd t ht), e]
    · rw [if_neg e, e2 t ht j]
      by_cases e' : j < k
      · rw [if_pos e', if_pos (by omega)]
      · rw [if_neg e', if_neg (by omega)]
  · rintro rec ⟨b0, a1, u⟩ ⟨e0, e1, f, e2⟩
    simp only at e0 e1 f e2
    subst e0
    exact fin rec u a1 e1 (f.lay hL) f e2
  · exact ⟨rfl, rfl, Fr.rf, fun t _ j => by simp⟩
set_option maxRecDepth 20000 in
theorem lay_I (h : Lay w) : sh w 133 = (12, 0) ∧ gR w 133 2 = some 135 ∧ gR w 133 3 = some 136 ∧ gR w 133 4 = some 137 ∧ gR w 133 5 = some 138 ∧ gR w 133 6 = some 139 ∧ gR w 133 7 = some 140 ∧ gR w 133 42 = some 161 ∧ gR w 133 44 = some 162 ∧ gR w 133 45 = some 163 ∧ gR w 133 47 = some 164 ∧ gR w 133 48 = some 165 ∧ sh w 135 = (50, 4) ∧ sh w 136 = (50, 4) ∧ sh w 137 = (50, 4) ∧ sh w 138 = (50, 16) ∧ sh w 139 = (50, 24) ∧ sh w 140 = (50, 6) ∧ sh w 161 = (50, 4) ∧ sh w 162 = (50, 4) ∧ sh w 163 = (50, 4) ∧ sh w 164 = (50, 8) ∧ sh w 165 = (50, 8) :=
  ⟨h.1 133 (by decide), h.2.1 (133, 2, 135) (by decide), h.2.1 (133, 3, 136) (by decide), h.2.1 (133, 4, 137) (by decide), h.2.1 (133, 5, 138) (by decide), h.2.1 (133, 6, 139) (by decide), h.2.1 (133, 7, 140) (by decide), h.2.1 (133, 42, 161) (by decide), h.2.1 (133, 44, 162) (by decide), h.2.1 (133, 45, 163) (by decide), h.2.1 (133, 47, 164) (by decide), h.2.1 (133, 48, 165) (by decide), h.1 135 (by decide), h.1 136 (by decide), h.1 137 (by decide), h.1 138 (by decide), h.1 139 (by decide), h.1 140 (by decide), h.1 161 (by decide), h.1 162 (by decide), h.1 163 (by decide), h.1 164 (by decide), h.1 165 (by decide)⟩
set_option maxRecDepth 20000 in
theorem lay_J (h : Lay w) : gR w 133 55 = some 166 ∧ gR w 133 56 = some 167 ∧ gR w 133 57 = some 168 ∧ gR w 133 58 = some 169 ∧ gR w 133 59 = some 170 ∧ gR w 133 60 = some 171 ∧ gR w 133 61 = some 172 ∧ gR w 133 62 = some 173 ∧ gR w 133 63 = some 174 ∧ gR w 133 64 = some 175 ∧ gR w 133 65 = some 176 ∧ sh w 166 = (50, 4) ∧ sh w 167 = (50, 4) ∧ sh w 168 = (50, 4) ∧ sh w 169 = (50, 16) ∧ sh w 170 = (50, 24) ∧ sh w 171 = (50, 6) ∧ sh w 172 = (50, 4) ∧ sh w 173 = (50, 4) ∧ sh w 174 = (50, 4) ∧ sh w 175 = (50, 8) ∧ sh w 176 = (50, 8) :=
  ⟨h.2.1 (133, 55, 166) (by decide), h.2.1 (133, 56, 167) (by decide), h.2.1 (133, 57, 168) (by decide), h.2.1 (133, 58, 169) (by decide), h.2.1 (133, 59, 170) (by decide), h.2.1 (133, 60, 171) (by decide), h.2.1 (133, 61, 172) (by decide), h.2.1 (133, 62, 173) (by decide), h.2.1 (133, 63, 174) (by decide), h.2.1 (133, 64, 175) (by decide), h.2.1 (133, 65, 176) (by decide), h.1 166 (by decide), h.1 167 (by decide), h.1 168 (by decide), h.1 169 (by decide), h.1 170 (by decide), h.1 171 (by decide), h.1 172 (by decide), h.1 173 (by decide), h.1 174 (by decide), h.1 175 (by decide), h.1 176 (by decide)⟩
theorem ti_16' : (16 : Int32).toInt = 16 := rfl
theorem ti_8i : (8 : Int32).toInt = 8 := rfl
/-- row d is row s of w, up to n -/
def cpd (w u : gW) (d s n : Nat) : Prop := ∀ j, gI u d j = if j < n then gI w s j else gI w d j
set_option maxHeartbeats 2000000 in
theorem c_Mimg210 (hN : 1000 ≤ N) (hL : Lay w) : ok (f_M_image_l210 N 133 0 w) (fun r u => r = gI w 133 0 ∧ Fr [175, 176] [] w u ∧ cpd w u 175 164 8 ∧ cpd w u 176 165 8) := by
  unfold f_M_image_l210
  refine cp_many (P := [(175, 164), (176, 165)]) (D := [175, 176]) (n := 8) (by omega) (by omega) (fun t ht => ?_) hL (fun rec u a1 k h1 hk hLu hh => ?_) (fun rec u a1 h1 hLu f e => ?_)
  · simp only [List.mem_cons, List.not_mem_nil, or_false] at ht
    rcases ht with rfl | rfl <;> exact ⟨by decide, by simp⟩
  · have hm := lay_I hLu
    have hj := lay_J hLu
    have n1 := nat_of h1
    have g1 := ix_of (m := 8) h1 hk
    rw [n1] at g1
    unfold f_M_image_b210
    refine ok_cdf (by rw [ti_le, h1, ti_8i]; omega) ?_
    simp only [ok_gd, ok_bd, ok_rr1, ok_nr0, ok_nr1, ok_ret, true_and, and_true, not_false_eq_true, sh_sI, sh_sR, sh_sL, gR_sI, gR_sL, gI_sR, gI_sL, sh_cI, gR_cI, hm, hj, n1, g1]
    refine hh _ (Fr_sI (Fr_sI Fr.rf (by simp)) (by simp)) (fun t ht j => ?_)
    simp only [List.mem_cons, List.not_mem_nil, or_false] at ht
    rcases ht with rfl | rfl <;> simp only [gI_sI] <;> by_cases ej : j = k <;> simp [ej]
  · have hm := lay_I hLu
    unfold f_M_image_b210
    refine ok_cdt (by rw [ti_le, h1, ti_8i]; decide) ?_
    simp only [ok_gd, ok_bd, ok_rr1, ok_nr0, ok_nr1, ok_ret, true_and, and_true, not_false_eq_true, sh_sI, sh_sR, sh_sL, gR_sI, gR_sL, gI_sR, gI_sL, sh_cI, gR_cI, hm]
    exact ⟨f.i ⟨by decide, by simp⟩, f, e (175, 164) (by simp), e (176, 165) (by simp)⟩
set_option maxHeartbeats 2000000 in
theorem c_Mimg184 (hN : 1000 ≤ N) (hL : Lay w) : ok (f_M_image_l184 N 133 0 w) (fun r u => r = gI w 133 0 ∧ Fr [171, 175, 176] [] w u ∧ cpd w u 171 140 6 ∧ cpd w u 175 164 8 ∧ cpd w u 176 165 8) := by
  unfold f_M_image_l184
  refine cp_many (P := [(171, 140)]) (D := [171]) (n := 6) (by omega) (by omega) (fun t ht => ?_) hL (fun rec u a1 k h1 hk hLu hh => ?_) (fun rec u a1 h1 hLu f e => ?_)
  · simp only [List.mem_cons, List.not_mem_nil, or_false] at ht
    subst ht; exact ⟨by decide, by simp⟩
  · have hm := lay_I hLu
    have hj := lay_J hLu
    have n1 := nat_of h1
    have g1 := ix_of (m := 6) h1 hk
    rw [n1] at g1
    unfold f_M_image_b184
    refine ok_cdf (by rw [ti_le, h1, ti_6]; omega) ?_
    simp only [ok_gd, ok_bd, ok_rr1, ok_nr0, ok_nr1, ok_ret, true_and, and_true, not_false_eq_true, sh_sI, sh_sR, sh_sL, gR_sI, gR_sL, gI_sR, gI_sL, sh_cI, gR_cI, hm, hj, n1, g1]
    refine hh _ (Fr_sI Fr.rf (by simp)) (fun t ht j => ?_)
    simp only [List.mem_cons, List.not_mem_nil, or_false] at ht
    subst ht; simp only [gI_sI]; by_cases ej : j = k <;> simp [ej]
  · unfold f_M_image_b184
    refine ok_cdt (by rw [ti_le, h1, ti_6]; decide) ?_
    refine (c_Mimg210 hN hLu).mono ?_
    rintro r v ⟨hr, fv, g1, g2⟩
    have e0 := e (171, 140) (by simp)
    refine ⟨by rw [hr]; exact f.i ⟨by decide, by simp⟩, (f.up (by simp) (by simp)).tr (fv.up (by simp) (by simp)), fun j => ?_, fun j => ?_, fun j => ?_⟩
    · rw [fv.i ⟨by decide, by simp⟩]; exact e0 j
    · rw [g1 j, f.i ⟨by decide, by simp⟩, f.i ⟨by decide, by simp⟩]
    · rw [g2 j, f.i ⟨by decide, by simp⟩, f.i ⟨by decide, by simp⟩]
theorem ti_24i : (24 : Int32).toInt = 24 := rfl
theorem ti_4i : (4 : Int32).toInt = 4 := rfl
set_option maxHeartbeats 4000000 in
theorem c_Mimg158 (hN : 1000 ≤ N) (hL : Lay w) : ok (f_M_image_l158 N 133 0 w) (fun r u => r = gI w 133 0 ∧ Fr [170, 171, 175, 176] [] w u ∧ cpd w u 170 139 24 ∧ cpd w u 171 140 6 ∧ cpd w u 175 164 8 ∧ cpd w u 176 165 8) := by
  unfold f_M_image_l158
  refine cp_many (P := [(170, 139)]) (D := [170]) (n := 24) (by omega) (by omega) (fun t ht => ?_) hL (fun rec u a1 k h1 hk hLu hh => ?_) (fun rec u a1 h1 hLu f e => ?_)
  · simp only [List.mem_cons, List.not_mem_nil, or_false] at ht
    rcases ht with rfl <;> exact ⟨by decide, by simp⟩
  · have hm := lay_I hLu
    have hj := lay_J hLu
    have n1 := nat_of h1
    have g1 := ix_of (m := 24) h1 hk
    rw [n1] at g1
    unfold f_M_image_b158
    refine ok_cdf (by rw [ti_le, h1, ti_24i]; omega) ?_
    simp only [ok_gd, ok_bd, ok_rr1, ok_nr0, ok_nr1, ok_ret, true_and, and_true, not_false_eq_true, sh_sI, sh_sR, sh_sL, gR_sI, gR_sL, gI_sR, gI_sL, sh_cI, gR_cI, hm, hj, n1, g1]
    refine hh _ (Fr_sI Fr.rf (by simp)) (fun t ht j => ?_)
    simp only [List.mem_cons, List.not_mem_nil, or_false] at ht
    rcases ht with rfl <;> simp only [gI_sI] <;> by_cases ej : j = k <;> simp [ej]
  · unfold f_M_image_b158
    refine ok_cdt (by rw [ti_le, h1, ti_24i]; decide) ?_
    refine (c_Mimg184 hN hLu).mono ?_
    rintro r v ⟨hr, fv, g0, g1, g2⟩
    refine ⟨by rw [hr]; exact f.i ⟨by decide, by simp⟩, (f.up (by simp) (by simp)).tr (fv.up (by simp) (by simp)), fun j => ?_, fun j => ?_, fun j => ?_, fun j => ?_⟩
    · rw [fv.i ⟨by decide, by simp⟩]; exact e (170, 139) (by simp) j
    · rw [g0 j, f.i ⟨by decide, by simp⟩, f.i ⟨by decide, by simp⟩]
    · rw [g1 j, f.i ⟨by decide, by simp⟩, f.i ⟨by decide, by simp⟩]
    · rw [g2 j, f.i ⟨by decide, by simp⟩, f.i ⟨by decide, by simp⟩]
set_option maxHeartbeats 4000000 in
theorem c_Mimg132 (hN : 1000 ≤ N) (hL : Lay w) : ok (f_M_image_l132 N 133 0 w) (fun r u => r = gI w 133 0 ∧ Fr [169, 170, 171, 175, 176] [] w u ∧ cpd w u 169 138 16 ∧ cpd w u 170 139 24 ∧ cpd w u 171 140 6 ∧ cpd w u 175 164 8 ∧ cpd w u 176 165 8) := by
  unfold f_M_image_l132
  refine cp_many (P := [(169, 138)]) (D := [169]) (n := 16) (by omega) (by omega) (fun t ht => ?_) hL (fun rec u a1 k h1 hk hLu hh => ?_) (fun rec u a1 h1 hLu f e => ?_)
  · simp only [List.mem_cons, List.not_mem_nil, or_false] at ht
    rcases ht with rfl <;> exact ⟨by decide, by simp⟩
  · have hm := lay_I hLu
    have hj := lay_J hLu
    have n1 := nat_of h1
    have g1 := ix_of (m := 16) h1 hk
    rw [n1] at g1
    unfold f_M_image_b132
    refine ok_cdf (by rw [ti_le, h1, ti_16']; omega) ?_
    simp only [ok_gd, ok_bd, ok_rr1, ok_nr0, ok_nr1, ok_ret, true_and, and_true, not_false_eq_true, sh_sI, sh_sR, sh_sL, gR_sI, gR_sL, gI_sR, gI_sL, sh_cI, gR_cI, hm, hj, n1, g1]
    refine hh _ (Fr_sI Fr.rf (by simp)) (fun t ht j => ?_)
    simp only [List.mem_cons, List.not_mem_nil, or_false] at ht
    rcases ht with rfl <;> simp only [gI_sI] <;> by_cases ej : j = k <;> simp [ej]
  · unfold f_M_image_b132
    refine ok_cdt (by rw [ti_le, h1, ti_16']; decide) ?_
    refine (c_Mimg158 hN hLu).mono ?_
    rintro r v ⟨hr, fv, g0, g1, g2, g3⟩
    refine ⟨by rw [hr]; exact f.i ⟨by decide, by simp⟩, (f.up (by simp) (by simp)).tr (fv.up (by simp) (by simp)), fun j => ?_, fun j => ?_, fun j => ?_, fun j => ?_, fun j => ?_⟩
    · rw [fv.i ⟨by decide, by simp⟩]; exact e (169, 138) (by simp) j
    · rw [g0 j, f.i ⟨by decide, by simp⟩, f.i ⟨by decide, by simp⟩]
    · rw [g1 j, f.i ⟨by decide, by simp⟩, f.i ⟨by decide, by simp⟩]
    · rw [g2 j, f.i ⟨by decide, by simp⟩, f.i ⟨by decide, by simp⟩]
    · rw [g3 j, f.i ⟨by decide, by simp⟩, f.i ⟨by decide, by simp⟩]
set_option maxHeartbeats 4000000 in
theorem c_Mimg47 (hN : 1000 ≤ N) (hL : Lay w) : ok (f_M_image_l47 N 133 0 w) (fun r u => r = gI w 133 0 ∧ Fr [166, 167, 168, 172, 173, 174, 169, 170, 171, 175, 176] [] w u ∧ cpd w u 166 135 4 ∧ cpd w u 167 136 4 ∧ cpd w u 168 137 4 ∧ cpd w u 172 161 4 ∧ cpd w u 173 162 4 ∧ cpd w u 174 163 4 ∧ cpd w u 169 138 16 ∧ cpd w u 170 139 24 ∧ cpd w u 171 140 6 ∧ cpd w u 175 164 8 ∧ cpd w u 176 165 8) := by
  unfold f_M_image_l47
  refine cp_many (P := [(166, 135), (167, 136), (168, 137), (172, 161), (173, 162), (174, 163)]) (D := [166, 167, 168, 172, 173, 174]) (n := 4) (by omega) (by omega) (fun t ht => ?_) hL (fun rec u a1 k h1 hk hLu hh => ?_) (fun rec u a1 h1 hLu f e => ?_)
  · simp only [List.mem_cons, List.not_mem_nil, or_false] at ht
    rcases ht with rfl | rfl | rfl | rfl | rfl | rfl <;> exact ⟨by decide, by simp⟩
  · have hm := lay_I hLu
    have hj := lay_J hLu
    have n1 := nat_of h1
    have g1 := ix_of (m := 4) h1 hk
    rw [n1] at g1
    unfold f_M_image_b47
    refine ok_cdf (by rw [ti_le, h1, ti_4i]; omega) ?_
    simp only [ok_gd, ok_bd, ok_rr1, ok_nr0, ok_nr1, ok_ret, true_and, and_true, not_false_eq_true, sh_sI, sh_sR, sh_sL, gR_sI, gR_sL, gI_sR, gI_sL, sh_cI, gR_cI, hm, hj, n1, g1]
    refine hh _ (Fr_sI (Fr_sI (Fr_sI (Fr_sI (Fr_sI (Fr_sI Fr.rf (by simp)) (by simp)) (by simp)) (by simp)) (by simp)) (by simp)) (fun t ht j => ?_)
    simp only [List.mem_cons, List.not_mem_nil, or_false] at ht
    rcases ht with rfl | rfl | rfl | rfl | rfl | rfl <;> simp only [gI_sI] <;> by_cases ej : j = k <;> simp [ej]
  · unfold f_M_image_b47
    refine ok_cdt (by rw [ti_le, h1, ti_4i]; decide) ?_
    refine (c_Mimg132 hN hLu).mono ?_
    rintro r v ⟨hr, fv, g0, g1, g2, g3, g4⟩
    refine ⟨by rw [hr]; exact f.i ⟨by decide, by simp⟩, (f.up (by simp) (by simp)).tr (fv.up (by simp) (by simp)), fun j => ?_, fun j => ?_, fun j => ?_, fun j => ?_, fun j => ?_, fun j => ?_, fun j => ?_, fun j => ?_, fun j => ?_, fun j => ?_, fun j => ?_⟩
    · rw [fv.i ⟨by decide, by simp⟩]; exact e (166, 135) (by simp) j
    · rw [fv.i ⟨by decide, by simp⟩]; exact e (167, 136) (by simp) j
    · rw [fv.i ⟨by decide, by simp⟩]; exact e (168, 137) (by simp) j
    · rw [fv.i ⟨by decide, by simp⟩]; exact e (172, 161) (by simp) j
    · rw [fv.i ⟨by decide, by simp⟩]; exact e (173, 162) (by simp) j
    · rw [fv.i ⟨by decide, by simp⟩]; exact e (174, 163) (by simp) j
    · rw [g0 j, f.i ⟨by decide, by simp⟩, f.i ⟨by decide, by simp⟩]
    · rw [g1 j, f.i ⟨by decide, by simp⟩, f.i ⟨by decide, by simp⟩]
    · rw [g2 j, f.i ⟨by decide, by simp⟩, f.i ⟨by decide, by simp⟩]
    · rw [g3 j, f.i ⟨by decide, by simp⟩, f.i ⟨by decide, by simp⟩]
    · rw [g4 j, f.i ⟨by decide, by simp⟩, f.i ⟨by decide, by simp⟩]
end IMG
