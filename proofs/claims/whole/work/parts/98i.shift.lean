/-! ===== shift =====  -/
section SHIFT
variable {N t t' p q n : Nat} {w u z : gW} {a1 a2 a3 a4 a5 : Int32}
set_option maxRecDepth 20000 in
theorem lay_H (h : Lay w) : gR w 133 71 = some 181 ∧ sh w 181 = (52, 60) := ⟨h.2.1 (133, 71, 181) (by decide), h.1 181 (by decide)⟩
theorem c_Mback (hN : 1000 ≤ N) (hL : Lay w) (h3 : a3.toInt = (t' : Int)) (ht' : t' < 6) (h4 : a4.toInt = (q : Int)) (h5 : a5.toInt = (n : Int)) (hq : q + n ≤ 60) :
    ok (f_M_shift_l141 N 133 a3 a4 a5 0 w) (fun r u => r = a5 ∧ Fr [180] [] w u ∧ ∀ j, gL u 180 j = if 60 * t' + q ≤ j ∧ j < 60 * t' + q + n then gL w 181 (j - (60 * t' + q)) else gL w 180 j) := by
  unfold f_M_shift_l141
  refine itr_up (fun k s => s.1 = 133 ∧ s.2.1 = a3 ∧ s.2.2.1 = a4 ∧ s.2.2.2.1 = a5 ∧ s.2.2.2.2.1.toInt = (k : Int) ∧ Fr [180] [] w s.2.2.2.2.2 ∧ ∀ j, gL s.2.2.2.2.2 180 j = if 60 * t' + q ≤ j ∧ j < 60 * t' + q + k then gL w 181 (j - (60 * t' + q)) else gL w 180 j) n ?_ ?_ N 0 _ (by omega) ?_ (by omega)
  · rintro rec k ⟨b0, b3, b4, b5, a6, u⟩ hk ⟨e0, e1, e2, e3, e5, f, ej⟩ IH
    simp only at e0 e1 e2 e3 e5 f ej
    subst e0 e1 e2 e3
    have hx := lay_TP (f.lay hL)
    have hy := lay_H (f.lay hL)
    have m0 : (60 * b3).toInt = 60 * (t' : Int) := by rw [ti_mul] <;> rw [ti_60, h3] <;> omega
    have m1 : (60 * b3 + b4).toInt = ((60 * t' + q : Nat) : Int) := by rw [ti_add] <;> rw [m0, h4] <;> omega
    clear m0
    have m2 : (60 * b3 + b4 + a6).toInt = ((60 * t' + q + k : Nat) : Int) := by rw [ti_add] <;> rw [m1, e5] <;> omega
    clear m1
    have n5 := nat_of m2
    have g5 := ix_of (m := 360) m2 (by omega)
    rw [n5] at g5
    clear m2
    have n6 := nat_of e5
    have g6 := ix_of (m := 60) e5 (by omega)
    rw [n6] at g6
    have k9 : k < 2147483647 := by omega
    refine ok_cdf (by rw [ti_le, h5, e5]; omega) ?_
    simp only [ok_gd, ok_bd, ok_rr1, ok_nr0, ok_nr1, ok_ret, true_and, and_true, not_false_eq_true, sh_sI, sh_sR, sh_sL, gR_sI, gR_sL, gI_sR, gI_sL, sh_cI, gR_cI, hx, hy, n5, g5, n6, g6]
    refine IH _ ?_
    refine ⟨rfl, rfl, rfl, rfl, ti_p1 e5 k9, Fr_sL f (by simp), fun j => ?_⟩
    simp only; rw [gL_sL]
    by_cases e : j = 60 * t' + q + k
    · rw [if_pos ⟨rfl, e⟩, if_pos (by omega), f.l (by simp), e]
      congr 1; omega
    · rw [if_neg (fun z => e z.2), ej j]
      by_cases e' : 60 * t' + q ≤ j ∧ j < 60 * t' + q + k
      · rw [if_pos e', if_pos (by omega)]
      · rw [if_neg e', if_neg (by omega)]
  · rintro rec ⟨b0, b3, b4, b5, a6, u⟩ ⟨e0, e1, e2, e3, e5, f, ej⟩
    simp only at e0 e1 e2 e3 e5 f ej
    subst e0 e1 e2 e3
    exact ok_cdt (by rw [ti_le, h5, e5]; omega) (ok_ret.mpr ⟨rfl, f, ej⟩)
  · exact ⟨rfl, rfl, rfl, rfl, rfl, Fr.rf, fun j => by rw [if_neg (by omega)]⟩
theorem c_Msh (hN : 1000 ≤ N) (hL : Lay w) (h1 : a1.toInt = (t : Int)) (ht : t < 6) (h2 : a2.toInt = (p : Int)) (h3 : a3.toInt = (t' : Int)) (ht' : t' < 6) (h4 : a4.toInt = (q : Int)) (h5 : a5.toInt = (n : Int)) (hp : p + n ≤ 60) (hq : q + n ≤ 60) :
    ok (f_M_shift_l104 N 133 a1 a2 a3 a4 a5 0 w) (fun r u => r = a5 ∧ Fr [180, 181] [] w u ∧ ∀ j, gL u 180 j = if 60 * t' + q ≤ j ∧ j < 60 * t' + q + n then gL w 180 (60 * t + p + (j - (60 * t' + q))) else gL w 180 j) := by
  unfold f_M_shift_l104
  refine itr_up (fun k s => s.1 = 133 ∧ s.2.1 = a1 ∧ s.2.2.1 = a2 ∧ s.2.2.2.1 = a3 ∧ s.2.2.2.2.1 = a4 ∧ s.2.2.2.2.2.1 = a5 ∧ s.2.2.2.2.2.2.1.toInt = (k : Int) ∧ Fr [181] [] w s.2.2.2.2.2.2.2 ∧ ∀ j, j < k → gL s.2.2.2.2.2.2.2 181 j = gL w 180 (60 * t + p + j)) n ?_ ?_ N 0 _ (by omega) ?_ (by omega)
  · rintro rec k ⟨b0, b1, b2, b3, b4, b5, a6, u⟩ hk ⟨e0, e1, e2, e3, e4, e6, e5, f, ej⟩ IH
    simp only at e0 e1 e2 e3 e4 e6 e5 f ej
    subst e0 e1 e2 e3 e4 e6
    have hx := lay_TP (f.lay hL)
    have hy := lay_H (f.lay hL)
    have m0 : (60 * b1).toInt = 60 * (t : Int) := by rw [ti_mul] <;> rw [ti_60, h1] <;> omega
    have m1 : (60 * b1 + b2).toInt = ((60 * t + p : Nat) : Int) := by rw [ti_add] <;> rw [m0, h2] <;> omega
    clear m0
    have m2 : (60 * b1 + b2 + a6).toInt = ((60 * t + p + k : Nat) : Int) := by rw [ti_add] <;> rw [m1, e5] <;> omega
    clear m1
    have n5 := nat_of m2
    have g5 := ix_of (m := 360) m2 (by omega)
    rw [n5] at g5
    clear m2
    have n6 := nat_of e5
    have g6 := ix_of (m := 60) e5 (by omega)
    rw [n6] at g6
    have k9 : k < 2147483647 := by omega
    refine ok_cdf (by rw [ti_le, h5, e5]; omega) ?_
    simp only [ok_gd, ok_bd, ok_rr1, ok_nr0, ok_nr1, ok_ret, true_and, and_true, not_false_eq_true, sh_sI, sh_sR, sh_sL, gR_sI, gR_sL, gI_sR, gI_sL, sh_cI, gR_cI, hx, hy, n5, g5, n6, g6]
    refine IH _ ?_
    refine ⟨rfl, rfl, rfl, rfl, rfl, rfl, ti_p1 e5 k9, Fr_sL f (by simp), fun j hj => ?_⟩
    simp only; rw [gL_sL]
    by_cases e : j = k
    · rw [if_pos ⟨rfl, e⟩, f.l (by simp), e]
    · rw [if_neg (fun z => e z.2)]; exact ej j (by omega)
  · rintro rec ⟨b0, b1, b2, b3, b4, b5, a6, u⟩ ⟨e0, e1, e2, e3, e4, e6, e5, f, ej⟩
    simp only at e0 e1 e2 e3 e4 e6 e5 f ej
    subst e0 e1 e2 e3 e4 e6
    refine ok_cdt (by rw [ti_le, h5, e5]; omega) ?_
    refine (c_Mback hN (f.lay hL) h3 ht' h4 h5 hq).mono ?_
    rintro r z ⟨hr, fz, hz⟩
    refine ⟨hr, (f.up (by simp) (by simp)).tr (fz.up (by simp) (by simp)), fun j => ?_⟩
    rw [hz j]
    by_cases e' : 60 * t' + q ≤ j ∧ j < 60 * t' + q + n
    · rw [if_pos e', if_pos e', ej _ (by omega)]
    · rw [if_neg e', if_neg e', f.l (by simp)]
  · exact ⟨rfl, rfl, rfl, rfl, rfl, rfl, rfl, Fr.rf, fun j hj => absurd hj (by omega)⟩
theorem c_Xstretch {s a b : Int32} (hs : 0 ≤ s.toInt ∧ s.toInt ≤ 60) : ok (f_X_isStretch N s a b w) (fun r u => u = w ∧ bt r (0 ≤ b.toInt ∧ 0 ≤ a.toInt ∧ a.toInt + b.toInt ≤ s.toInt)) := by
  unfold f_X_isStretch f_X_isStretch_b0
  rw [ok_cd]
  refine ⟨fun c => ?_, fun c => ?_⟩ <;> rw [ti_lt, ti_0] at c
  · exact ok_ret.mpr ⟨rfl, Or.inr ⟨ti_0, by omega⟩⟩
  rw [ok_cd]
  refine ⟨fun d => ?_, fun d => ?_⟩ <;> rw [ti_lt, ti_0] at d
  · exact ok_ret.mpr ⟨rfl, Or.inr ⟨ti_0, by omega⟩⟩
  rw [ok_cd]
  refine ⟨fun e => ?_, fun e => ?_⟩ <;> rw [ti_lt] at e
  · exact ok_ret.mpr ⟨rfl, Or.inr ⟨ti_0, by omega⟩⟩
  have m : (s - b).toInt = s.toInt - b.toInt := by rw [ti_sub] <;> omega
  simp only [ok_bd]
  rw [ok_cd]
  refine ⟨fun g => ?_, fun g => ?_⟩ <;> rw [ti_lt, m] at g
  · exact ok_ret.mpr ⟨rfl, Or.inr ⟨ti_0, by omega⟩⟩
  · exact ok_ret.mpr ⟨rfl, Or.inl ⟨ti_1, by omega⟩⟩
end SHIFT
