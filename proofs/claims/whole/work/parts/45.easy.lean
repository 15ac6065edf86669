/-! ===== the easy calls; by program ===== -/
theorem p_till {w : gW} {N : Nat} {a1 a2 : Int32} (h : Sim w) : ok (f_X_till N 0 a1 a2 w) (fun r w1 => ok (f_M_till N 133 a1 a2 w1) (fun r' w2 => r = r' ∧ Sim w2)) := by
  have hs := lay_s h.1
  have hr := lay_r h.1
  rcases (show a1.toInt < 0 ∨ 5 < a1.toInt ∨ 0 ≤ a1.toInt ∧ a1.toInt ≤ 5 by omega) with z1 | z1 | z1
  · have e1_0 : a1.toInt < 0 := by omega
    have e1_1 : ¬ 0 ≤ a1.toInt := by omega
    have e1_2 : a1.toInt < 6 := by omega
    have e1_3 : a1.toInt ≤ 5 := by omega
    have e1_4 : ¬ 5 < a1.toInt := by omega
    have e1_5 : ¬ 6 ≤ a1.toInt := by omega
    simp only [f_X_till, f_M_till, f_X_till_b0, f_M_till_b0, f_X_isSort, f_X_exchange, f_M_isSort, f_M_in, f_X_isSort_b0, f_X_exchange_b0, f_M_isSort_b0, f_M_in_b0, ok_kl, ok_cd, ok_gd, ok_bd, ok_rr1, ok_nr0, ok_nr1, ok_ret, sh_sI, gR_sI, sh_sR, gR_sR, gI_sR, hs, hr, ti_lt, ti_le, ti_eq, ti_nat, ti_0, ti_1, ti_2, ti_3, ti_4, ti_5, ti_6, ti_7, ti_8, ti_9, ti_10, ti_60, ti_99, ti_100, ti_n1, true_and, and_true, false_and, and_false, not_false_eq_true, not_true_eq_false, false_implies, true_implies, Int.reduceEq, Int.reduceLT, Int.reduceLE, Int.reduceNeg, or_self, or_true, true_or, or_false, false_or, false_or, implies_true, e1_0, e1_1, e1_2, e1_3, e1_4, e1_5]
    exact h
  · have e1_0 : ¬ a1.toInt < 0 := by omega
    have e1_1 : 0 ≤ a1.toInt := by omega
    have e1_2 : ¬ a1.toInt < 6 := by omega
    have e1_3 : ¬ a1.toInt ≤ 5 := by omega
    have e1_4 : 5 < a1.toInt := by omega
    have e1_5 : 6 ≤ a1.toInt := by omega
    simp only [f_X_till, f_M_till, f_X_till_b0, f_M_till_b0, f_X_isSort, f_X_exchange, f_M_isSort, f_M_in, f_X_isSort_b0, f_X_exchange_b0, f_M_isSort_b0, f_M_in_b0, ok_kl, ok_cd, ok_gd, ok_bd, ok_rr1, ok_nr0, ok_nr1, ok_ret, sh_sI, gR_sI, sh_sR, gR_sR, gI_sR, hs, hr, ti_lt, ti_le, ti_eq, ti_nat, ti_0, ti_1, ti_2, ti_3, ti_4, ti_5, ti_6, ti_7, ti_8, ti_9, ti_10, ti_60, ti_99, ti_100, ti_n1, true_and, and_true, false_and, and_false, not_false_eq_true, not_true_eq_false, false_implies, true_implies, Int.reduceEq, Int.reduceLT, Int.reduceLE, Int.reduceNeg, or_self, or_true, true_or, or_false, false_or, false_or, implies_true, e1_0, e1_1, e1_2, e1_3, e1_4, e1_5]
    exact h
  · have e1_0 : ¬ a1.toInt < 0 := by omega
    have e1_1 : 0 ≤ a1.toInt := by omega
    have e1_2 : a1.toInt < 6 := by omega
    have e1_3 : a1.toInt ≤ 5 := by omega
    have e1_4 : ¬ 5 < a1.toInt := by omega
    have e1_5 : ¬ 6 ≤ a1.toInt := by omega
    have e1_6 : ¬ 6 ≤ a1.toInt.toNat := by omega
    rcases (show a2.toInt < 0 ∨ 99 < a2.toInt ∨ 0 ≤ a2.toInt ∧ a2.toInt ≤ 99 by omega) with z2 | z2 | z2
    · have e2_0 : a2.toInt < 0 := by omega
      have e2_1 : ¬ 0 ≤ a2.toInt := by omega
      have e2_2 : a2.toInt < 100 := by omega
      have e2_3 : a2.toInt ≤ 99 := by omega
      have e2_4 : ¬ 99 < a2.toInt := by omega
      have e2_5 : ¬ 100 ≤ a2.toInt := by omega
      simp only [f_X_till, f_M_till, f_X_till_b0, f_M_till_b0, f_X_isSort, f_X_exchange, f_M_isSort, f_M_in, f_X_isSort_b0, f_X_exchange_b0, f_M_isSort_b0, f_M_in_b0, ok_kl, ok_cd, ok_gd, ok_bd, ok_rr1, ok_nr0, ok_nr1, ok_ret, sh_sI, gR_sI, sh_sR, gR_sR, gI_sR, hs, hr, ti_lt, ti_le, ti_eq, ti_nat, ti_0, ti_1, ti_2, ti_3, ti_4, ti_5, ti_6, ti_7, ti_8, ti_9, ti_10, ti_60, ti_99, ti_100, ti_n1, true_and, and_true, false_and, and_false, not_false_eq_true, not_true_eq_false, false_implies, true_implies, Int.reduceEq, Int.reduceLT, Int.reduceLE, Int.reduceNeg, or_self, or_true, true_or, or_false, false_or, false_or, implies_true, e1_0, e1_1, e1_2, e1_3, e1_4, e1_5, e1_6, e2_0, e2_1, e2_2, e2_3, e2_4, e2_5]
      exact h
    · have e2_0 : ¬ a2.toInt < 0 := by omega
      have e2_1 : 0 ≤ a2.toInt := by omega
      have e2_2 : ¬ a2.toInt < 100 := by omega
      have e2_3 : ¬ a2.toInt ≤ 99 := by omega
      have e2_4 : 99 < a2.toInt := by omega
      have e2_5 : 100 ≤ a2.toInt := by omega
      simp only [f_X_till, f_M_till, f_X_till_b0, f_M_till_b0, f_X_isSort, f_X_exchange, f_M_isSort, f_M_in, f_X_isSort_b0, f_X_exchange_b0, f_M_isSort_b0, f_M_in_b0, ok_kl, ok_cd, ok_gd, ok_bd, ok_rr1, ok_nr0, ok_nr1, ok_ret, sh_sI, gR_sI, sh_sR, gR_sR, gI_sR, hs, hr, ti_lt, ti_le, ti_eq, ti_nat, ti_0, ti_1, ti_2, ti_3, ti_4, ti_5, ti_6, ti_7, ti_8, ti_9, ti_10, ti_60, ti_99, ti_100, ti_n1, true_and, and_true, false_and, and_false, not_false_eq_true, not_true_eq_false, false_implies, true_implies, Int.reduceEq, Int.reduceLT, Int.reduceLE, Int.reduceNeg, or_self, or_true, true_or, or_false, false_or, false_or, implies_true, e1_0, e1_1, e1_2, e1_3, e1_4, e1_5, e1_6, e2_0, e2_1, e2_2, e2_3, e2_4, e2_5]
      exact h
    · have e2_0 : ¬ a2.toInt < 0 := by omega
      have e2_1 : 0 ≤ a2.toInt := by omega
      have e2_2 : a2.toInt < 100 := by omega
      have e2_3 : a2.toInt ≤ 99 := by omega
      have e2_4 : ¬ 99 < a2.toInt := by omega
      have e2_5 : ¬ 100 ≤ a2.toInt := by omega
      have e2_6 : ¬ 100 ≤ a2.toInt.toNat := by omega
      simp only [f_X_till, f_M_till, f_X_till_b0, f_M_till_b0, f_X_isSort, f_X_exchange, f_M_isSort, f_M_in, f_X_isSort_b0, f_X_exchange_b0, f_M_isSort_b0, f_M_in_b0, ok_kl, ok_cd, ok_gd, ok_bd, ok_rr1, ok_nr0, ok_nr1, ok_ret, sh_sI, gR_sI, sh_sR, gR_sR, gI_sR, hs, hr, ti_lt, ti_le, ti_eq, ti_nat, ti_0, ti_1, ti_2, ti_3, ti_4, ti_5, ti_6, ti_7, ti_8, ti_9, ti_10, ti_60, ti_99, ti_100, ti_n1, true_and, and_true, false_and, and_false, not_false_eq_true, not_true_eq_false, false_implies, true_implies, Int.reduceEq, Int.reduceLT, Int.reduceLE, Int.reduceNeg, or_self, or_true, true_or, or_false, false_or, false_or, implies_true, e1_0, e1_1, e1_2, e1_3, e1_4, e1_5, e1_6, e2_0, e2_1, e2_2, e2_3, e2_4, e2_5, e2_6]
      refine ⟨?_, h.u_till (Fr_sI (Fr_sI Fr.rf (by simp)) (by simp)) ?_ ?_⟩
      · have := h.2.1.atil a1.toInt.toNat (by omega)
        simp only [gI_sI]
        rw [this]
        simp
      · intro k hk
        have := h.2.1.atil k hk
        simp only [gI_sI]
        by_cases e : k = a1.toInt.toNat
        · simp [e]
        · simp [e, this]
      · intro k hk
        have := h.2.1.atilr k hk
        simp only [gI_sI]
        by_cases e : k = a1.toInt.toNat
        · rw [if_pos ⟨trivial, e⟩]; omega
        · rw [if_neg (fun z => e z.2), if_neg (fun z => e z.2)]; exact this
