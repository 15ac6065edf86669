/-! ===== tape =====  -/
section TAPE
variable {N t : Nat} {w u z : gW} {a1 a2 a3 : Int32}
abbrev TT : List Nat := [76, 77, 79, 80, 81, 82, 83, 84, 178, 179, 180]
theorem tape_fin (h : Sim w) (ht : t < 6) {s n : Int32} (hs : -1 ≤ s.toInt ∧ s.toInt ≤ 4) (hn : 0 ≤ n.toInt ∧ n.toInt ≤ 60) (hz : s.toInt < 0 → n.toInt = 0) (f : Fr TT [] w z) (g1 : ∀ j, gI z 76 j = if j = t then s else gI w 76 j) (g2 : ∀ j, gI z 77 j = if j = t then n else gI w 77 j) (g3 : ∀ j, gI z 178 j = if j = t then s else gI w 178 j) (g4 : ∀ j, gI z 179 j = if j = t then n else gI w 179 j) (g5 : lgA z) : Sim z := by
  refine h.u_tape f (fun j hj => ?_) (fun j hj => ?_) (fun j hj => ?_) (fun j hj => ?_) (fun j hj hl => ?_) g5
  · rw [g1, g3]; by_cases e : j = t
    · rw [if_pos e, if_pos e]
    · rw [if_neg e, if_neg e]; exact h.2.1.srt j hj
  · rw [g3]; by_cases e : j = t
    · rw [if_pos e]; exact hs
    · rw [if_neg e]; exact h.2.1.srtr j hj
  · rw [g2, g4]; by_cases e : j = t
    · rw [if_pos e, if_pos e]
    · rw [if_neg e, if_neg e]; exact h.2.1.len j hj
  · rw [g4]; by_cases e : j = t
    · rw [if_pos e]; exact hn
    · rw [if_neg e]; exact h.2.1.lenr j hj
  · rw [g3] at hl; rw [g4]; by_cases e : j = t
    · rw [if_pos e] at hl ⊢; exact hz hl
    · rw [if_neg e] at hl ⊢; exact h.2.1.lnz j hj hl
set_option maxRecDepth 20000 in
theorem lay_TP (h : Lay w) : sh w 0 = (11, 0) ∧ gR w 0 11 = some 76 ∧ gR w 0 12 = some 77 ∧ gR w 0 13 = some 78 ∧ sh w 76 = (50, 6) ∧ sh w 77 = (50, 6) ∧ sh w 78 = (57, 6) ∧ sh w 133 = (12, 0) ∧ gR w 133 68 = some 178 ∧ gR w 133 69 = some 179 ∧ gR w 133 70 = some 180 ∧ sh w 178 = (50, 6) ∧ sh w 179 = (50, 6) ∧ sh w 180 = (52, 360) := ⟨h.1 0 (by decide), h.2.1 (0, 11, 76) (by decide), h.2.1 (0, 12, 77) (by decide), h.2.1 (0, 13, 78) (by decide), h.1 76 (by decide), h.1 77 (by decide), h.1 78 (by decide), h.1 133 (by decide), h.2.1 (133, 68, 178) (by decide), h.2.1 (133, 69, 179) (by decide), h.2.1 (133, 70, 180) (by decide), h.1 178 (by decide), h.1 179 (by decide), h.1 180 (by decide)⟩
theorem c_Xtape' {a : Int32} : ok (f_X_isTape N a w) (fun r u => u = w ∧ bt r (0 ≤ a.toInt ∧ a.toInt < 6)) := by
  unfold f_X_isTape f_X_isTape_b0
  rw [ok_cd]
  refine ⟨fun c => ?_, fun c => ?_⟩
  · rw [ti_lt, ti_0] at c
    exact ok_ret.mpr ⟨rfl, Or.inr ⟨ti_0, by omega⟩⟩
  · rw [ti_lt, ti_0] at c
    rw [ok_cd]
    refine ⟨fun d => ?_, fun d => ?_⟩
    · rw [ti_le, ti_6] at d
      exact ok_ret.mpr ⟨rfl, Or.inr ⟨ti_0, by omega⟩⟩
    · rw [ti_le, ti_6] at d
      exact ok_ret.mpr ⟨rfl, Or.inl ⟨ti_1, by omega⟩⟩
theorem c_Mtape' {a : Int32} (hL : Lay w) : ok (f_M_isTape N 133 a w) (fun r u => u = w ∧ bt r (0 ≤ a.toInt ∧ a.toInt < 6)) := by
  have hm := lay_M hL
  unfold f_M_isTape f_M_isTape_b0
  simp only [ok_gd, true_and, hm]
  refine ok_call c_Min ?_
  rintro r u ⟨rfl, hr⟩
  rw [ti_0, ti_5] at hr
  refine ok_gdt hr.g (ok_ret.mpr ⟨rfl, ?_⟩)
  rcases hr with ⟨h1, h2⟩ | ⟨h1, h2⟩
  · exact Or.inl ⟨h1, by omega⟩
  · exact Or.inr ⟨h1, by omega⟩
theorem c_Xclear {n : Nat} (hN : 1000 ≤ N) (hL : Lay w) (h1 : a1.toInt = (t : Int)) (ht : t < 6) (h3 : a3.toInt = (n : Int)) (hn : n ≤ 60) : ok (f_X_tape_l72 N 0 a1 a3 0 w) (fun r u => r.toInt = 1 ∧ Fr [79 + t] [] w u ∧ (∀ a j, gI u a j = gI w a j) ∧ ∀ k, k < n → gL u (79 + t) k = 0) := by
  have n1 := nat_of h1
  have g1 := ix_of (m := 6) h1 ht
  rw [n1] at g1
  unfold f_X_tape_l72
  refine itr_up (fun k q => q.1 = 0 ∧ q.2.1 = a1 ∧ q.2.2.1 = a3 ∧ q.2.2.2.1.toInt = (k : Int) ∧ Fr [79 + t] [] w q.2.2.2.2 ∧ (∀ a j, gI q.2.2.2.2 a j = gI w a j) ∧ ∀ j, j < k → gL q.2.2.2.2 (79 + t) j = 0) n ?_ ?_ N 0 _ (by omega) ?_ (by omega)
  · rintro rec k ⟨b0, b1, b3, a4, u⟩ hk ⟨e0, e1, e2, e5, f, ei, ej⟩ IH
    simp only at e0 e1 e2 e5 f ei ej
    subst e0 e1 e2
    have hx := lay_TP (f.lay hL)
    have q1 := lay_r78 (f.lay hL) ht
    have q2 := lay_s79 (f.lay hL) ht
    have n5 := nat_of e5
    have g5 := ix_of (m := 60) e5 (by omega)
    rw [n5] at g5
    have k9 : k < 2147483647 := by omega
    refine ok_cdf (by rw [ti_le, h3, e5]; omega) ?_
    simp only [ok_gd, ok_bd, ok_rr1, ok_nr0, ok_nr1, ok_ret, true_and, and_true, not_false_eq_true, sh_sI, sh_sR, sh_sL, gR_sI, gR_sL, gI_sR, gI_sL, sh_cI, gR_cI, hx, n1, g1, q1, q2, n5, g5]
    refine IH _ ?_
    refine ⟨rfl, rfl, rfl, ti_p1 e5 k9, Fr_sL f (by simp), fun a j => ?_, fun j hj => ?_⟩
    · simp only; rw [gI_sL]; exact ei a j
    · simp only; rw [gL_sL]
      by_cases e : j = k
      · rw [if_pos ⟨rfl, e⟩]
      · rw [if_neg (fun q => e q.2)]; exact ej j (by omega)
  · rintro rec ⟨b0, b1, b3, a4, u⟩ ⟨e0, e1, e2, e5, f, ei, ej⟩
    simp only at e0 e1 e2 e5 f ei ej
    subst e0 e1 e2
    exact ok_cdt (by rw [ti_le, h3, e5]; omega) (ok_ret.mpr ⟨ti_1, f, ei, ej⟩)
  · exact ⟨rfl, rfl, rfl, rfl, Fr.rf, fun _ _ => rfl, fun j hj => absurd hj (by omega)⟩
theorem c_Mclear (hN : 1000 ≤ N) (hL : Lay w) (h1 : a1.toInt = (t : Int)) (ht : t < 6) : ok (f_M_tape_l69 N 133 a1 0 w) (fun r u => r.toInt = 1 ∧ Fr [180] [] w u ∧ (∀ a j, gI u a j = gI w a j) ∧ (∀ k, k < 60 → gL u 180 (60 * t + k) = 0) ∧ ∀ j, (j < 60 * t ∨ 60 * t + 60 ≤ j) → gL u 180 j = gL w 180 j) := by
  unfold f_M_tape_l69
  refine itr_up (fun k q => q.1 = 133 ∧ q.2.1 = a1 ∧ q.2.2.1.toInt = (k : Int) ∧ Fr [180] [] w q.2.2.2 ∧ (∀ a j, gI q.2.2.2 a j = gI w a j) ∧ (∀ j, j < k → gL q.2.2.2 180 (60 * t + j) = 0) ∧ ∀ j, (j < 60 * t ∨ 60 * t + k ≤ j) → gL q.2.2.2 180 j = gL w 180 j) 60 ?_ ?_ N 0 _ (by omega) ?_ (by omega)
  · rintro rec k ⟨b0, b1, a4, u⟩ hk ⟨e0, e1, e5, f, ei, ej, eo⟩ IH
    simp only at e0 e1 e5 f ei ej eo
    subst e0 e1
    have hx := lay_TP (f.lay hL)
    have m0 : (60 * b1).toInt = 60 * (t : Int) := by rw [ti_mul] <;> rw [ti_60, h1] <;> omega
    have m1 : (60 * b1 + a4).toInt = ((60 * t + k : Nat) : Int) := by rw [ti_add] <;> rw [m0, e5] <;> omega
    clear m0
    have n5 := nat_of m1
    have g5 := ix_of (m := 360) m1 (by omega)
    rw [n5] at g5
    clear m1
    have k9 : k < 2147483647 := by omega
    refine ok_cdf (by rw [ti_le, ti_60, e5]; omega) ?_
    simp only [ok_gd, ok_bd, ok_rr1, ok_nr0, ok_nr1, ok_ret, true_and, and_true, not_false_eq_true, sh_sI, sh_sR, sh_sL, gR_sI, gR_sL, gI_sR, gI_sL, sh_cI, gR_cI, hx, n5, g5]
    refine IH _ ?_
    refine ⟨rfl, rfl, ti_p1 e5 k9, Fr_sL f (by simp), fun a j => ?_, fun j hj => ?_, fun j hj => ?_⟩
    · simp only; rw [gI_sL]; exact ei a j
    · simp only; rw [gL_sL]
      by_cases e : j = k
      · rw [if_pos ⟨rfl, by omega⟩]
      · rw [if_neg (fun q => e (by omega))]; exact ej j (by omega)
    · simp only; rw [gL_sL, if_neg (fun q => by omega)]; exact eo j (by omega)
  · rintro rec ⟨b0, b1, a4, u⟩ ⟨e0, e1, e5, f, ei, ej, eo⟩
    simp only at e0 e1 e5 f ei ej eo
    subst e0 e1
    exact ok_cdt (by rw [ti_le, ti_60, e5]; decide) (ok_ret.mpr ⟨ti_1, f, ei, ej, eo⟩)
  · exact ⟨rfl, rfl, rfl, Fr.rf, fun _ _ => rfl, fun j hj => absurd hj (by omega), fun _ _ => rfl⟩
end TAPE
