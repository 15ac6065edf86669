/-! ===== acts: the trace =====  -/
section ACT
variable {N : Nat} {w u z : gW}
/-- a trace: how many bodies ran, and the row of the first 20 -/
abbrev TRc (w : gW) (s : Nat × (Nat → Int32)) : Prop := (gI w 74 1).toInt = (s.1 : Int) ∧ ∀ j, j < 20 → gI w 75 j = s.2 j
abbrev TRm (w : gW) (s : Nat × (Nat → Int32)) : Prop := (gI w 133 66).toInt = (s.1 : Int) ∧ ∀ j, j < 20 → gI w 177 j = s.2 j
/-- a body begins -/
def trs (s : Nat × (Nat → Int32)) (b : Int32) : Nat × (Nat → Int32) := (s.1 + 1, fun j => if j = s.1 then b else s.2 j)
set_option maxRecDepth 20000 in
theorem lay_A (h : Lay w) : sh w 74 = (8, 0) ∧ gR w 74 0 = some 75 ∧ sh w 75 = (50, 20) ∧ gR w 0 10 = some 74 ∧ sh w 133 = (12, 0) ∧ gR w 133 67 = some 177 ∧ sh w 177 = (50, 20) := ⟨h.1 74 (by decide), h.2.1 (74, 0, 75) (by decide), h.1 75 (by decide), h.2.1 (0, 10, 74) (by decide), h.1 133 (by decide), h.2.1 (133, 67, 177) (by decide), h.1 177 (by decide)⟩
theorem ti_20a : (20 : Int32).toInt = 20 := rfl
theorem c_begins {s : Nat × (Nat → Int32)} {b : Int32} (hL : Lay w) (hs : s.1 ≤ 900) (q : TRc w s) : ok (f_Tr_begins N 74 b w) (fun _ u => Fr [75] [(74, 1)] w u ∧ TRc u (trs s b)) := by
  have hx := lay_A hL
  have k9 : s.1 < 2147483647 := by omega
  unfold f_Tr_begins f_Tr_begins_b0
  simp only [ok_gd, ok_bd, true_and, hx]
  rw [ok_cd]
  refine ⟨fun c => ?_, fun c => ?_⟩ <;> rw [ti_le, ti_20a, q.1] at c
  · unfold f_Tr_begins_b19
    simp only [ok_gd, ok_bd, ok_rr1, ok_nr0, ok_nr1, ok_ret, true_and, and_true, not_false_eq_true, sh_sI, sh_sR, sh_sL, gR_sI, gR_sL, gI_sR, gI_sL, sh_cI, gR_cI, hx]
    refine ⟨Fr_sI Fr.rf (by simp), ?_, fun j hj => ?_⟩
    · rw [gI_eq]; exact ti_p1 q.1 k9
    · rw [gI_ne (by decide), q.2 j hj]; simp only [trs]; rw [if_neg (by omega)]
  · have h20 : s.1 < 20 := by omega
    have n1 := nat_of q.1
    have g1 := ix_of (m := 20) q.1 h20
    rw [n1] at g1
    unfold f_Tr_begins_b19
    simp only [ok_gd, ok_bd, ok_rr1, ok_nr0, ok_nr1, ok_ret, true_and, and_true, not_false_eq_true, sh_sI, sh_sR, sh_sL, gR_sI, gR_sL, gI_sR, gI_sL, sh_cI, gR_cI, hx, n1, g1]
    refine ⟨Fr_sI (Fr_sI Fr.rf (by simp)) (by simp), ?_, fun j hj => ?_⟩
    · rw [gI_eq, gI_ne (by decide)]; exact ti_p1 q.1 k9
    · rw [gI_ne (by decide), gI_sI]; simp only [trs]
      by_cases e : j = s.1
      · rw [if_pos ⟨trivial, e⟩, if_pos e]
      · rw [if_neg (fun z => e z.2), if_neg e, q.2 j hj]
theorem c_body {s : Nat × (Nat → Int32)} {b : Int32} (hL : Lay w) (hs : s.1 ≤ 900) (q : TRm w s) : ok (f_M_body N 133 b w) (fun _ u => Fr [177] [(133, 66)] w u ∧ TRm u (trs s b)) := by
  have hx := lay_A hL
  have k9 : s.1 < 2147483647 := by omega
  unfold f_M_body f_M_body_b0
  simp only [ok_gd, ok_bd, true_and, hx]
  rw [ok_cd]
  refine ⟨fun c => ?_, fun c => ?_⟩ <;> rw [ti_le, ti_20a, q.1] at c
  · unfold f_M_body_b19
    simp only [ok_gd, ok_bd, ok_rr1, ok_nr0, ok_nr1, ok_ret, true_and, and_true, not_false_eq_true, sh_sI, sh_sR, sh_sL, gR_sI, gR_sL, gI_sR, gI_sL, sh_cI, gR_cI, hx]
    refine ⟨Fr_sI Fr.rf (by simp), ?_, fun j hj => ?_⟩
    · rw [gI_eq]; exact ti_p1 q.1 k9
    · rw [gI_ne (by decide), q.2 j hj]; simp only [trs]; rw [if_neg (by omega)]
  · have h20 : s.1 < 20 := by omega
    have n1 := nat_of q.1
    have g1 := ix_of (m := 20) q.1 h20
    rw [n1] at g1
    unfold f_M_body_b19
    simp only [ok_gd, ok_bd, ok_rr1, ok_nr0, ok_nr1, ok_ret, true_and, and_true, not_false_eq_true, sh_sI, sh_sR, sh_sL, gR_sI, gR_sL, gI_sR, gI_sL, sh_cI, gR_cI, hx, n1, g1]
    refine ⟨Fr_sI (Fr_sI Fr.rf (by simp)) (by simp), ?_, fun j hj => ?_⟩
    · rw [gI_eq, gI_ne (by decide)]; exact ti_p1 q.1 k9
    · rw [gI_ne (by decide), gI_sI]; simp only [trs]
      by_cases e : j = s.1
      · rw [if_pos ⟨trivial, e⟩, if_pos e]
      · rw [if_neg (fun z => e z.2), if_neg e, q.2 j hj]
end ACT
