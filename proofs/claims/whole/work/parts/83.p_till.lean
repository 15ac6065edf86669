set_option maxHeartbeats 8000000 in
theorem p_till {w : gW} {N : Nat} {a1 a2 : Int32} (h : Sim w) : ok (f_X_till N 0 a1 a2 w) (fun r w1 => ok (f_M_till N 133 a1 a2 w1) (fun r' w2 => r = r' ∧ Sim w2)) := by
  have hs := lay_se h.1
  have hr := lay_re h.1
  rcases (show a1.toInt < 0 ∨ 5 < a1.toInt ∨ 0 ≤ a1.toInt ∧ a1.toInt ≤ 5 by omega) with z1 | z1 | z1
  · have z10 := z1
    have e1_0 : a1.toInt < 0 := by omega
    have e1_1 : ¬ 0 ≤ a1.toInt := by omega
    have e1_2 : a1.toInt < 6 := by omega
    have e1_3 : a1.toInt ≤ 5 := by omega
    have e1_4 : ¬ 5 < a1.toInt := by omega
    have e1_5 : ¬ 6 ≤ a1.toInt := by omega
    simp (disch := omega) only [f_X_till, f_M_till, f_X_till_b0, f_M_till_b0, f_X_isSort, f_X_exchange, f_M_isSort, f_M_in, f_X_isSort_b0, f_X_exchange_b0, f_M_isSort_b0, f_M_in_b0, sh_sL, gI_sL, gR_sL, sh_cI, gR_cI, gL_sI, gL_sR, sh_cL, gR_cL, gI_cL, ok_kl, ok_cd, ok_gd, ok_bd, ok_rr1, ok_nr0, ok_nr1, ok_ret, sh_sI, gR_sI, sh_sR, gR_ne, gR_nk, gR_eq, gI_sR, gI_eq, gI_ne, gI_nk, hs, hr, ti_lt, ti_le, ti_eq, ti_nat, ti_0, ti_1, ti_2, ti_3, ti_4, ti_5, ti_6, ti_7, ti_8, ti_9, ti_10, ti_60, ti_99, ti_199, ti_100, ti_19, ti_20, ti_127, ti_n1, true_and, and_true, false_and, and_false, not_false_eq_true, not_true_eq_false, false_implies, true_implies, Int.reduceEq, Int.reduceLT, Int.reduceLE, Int.reduceNeg, or_self, or_true, true_or, or_false, false_or, false_or, implies_true, Int.toNat_natCast, e1_0, e1_1, e1_2, e1_3, e1_4, e1_5]
    exact h
  · have z10 := z1
    have e1_0 : ¬ a1.toInt < 0 := by omega
    have e1_1 : 0 ≤ a1.toInt := by omega
    have e1_2 : ¬ a1.toInt < 6 := by omega
    have e1_3 : ¬ a1.toInt ≤ 5 := by omega
    have e1_4 : 5 < a1.toInt := by omega
    have e1_5 : 6 ≤ a1.toInt := by omega
    simp (disch := omega) only [f_X_till, f_M_till, f_X_till_b0, f_M_till_b0, f_X_isSort, f_X_exchange, f_M_isSort, f_M_in, f_X_isSort_b0, f_X_exchange_b0, f_M_isSort_b0, f_M_in_b0, sh_sL, gI_sL, gR_sL, sh_cI, gR_cI, gL_sI, gL_sR, sh_cL, gR_cL, gI_cL, ok_kl, ok_cd, ok_gd, ok_bd, ok_rr1, ok_nr0, ok_nr1, ok_ret, sh_sI, gR_sI, sh_sR, gR_ne, gR_nk, gR_eq, gI_sR, gI_eq, gI_ne, gI_nk, hs, hr, ti_lt, ti_le, ti_eq, ti_nat, ti_0, ti_1, ti_2, ti_3, ti_4, ti_5, ti_6, ti_7, ti_8, ti_9, ti_10, ti_60, ti_99, ti_199, ti_100, ti_19, ti_20, ti_127, ti_n1, true_and, and_true, false_and, and_false, not_false_eq_true, not_true_eq_false, false_implies, true_implies, Int.reduceEq, Int.reduceLT, Int.reduceLE, Int.reduceNeg, or_self, or_true, true_or, or_false, false_or, false_or, implies_true, Int.toNat_natCast, e1_0, e1_1, e1_2, e1_3, e1_4, e1_5]
    exact h
  · obtain ⟨k, hk⟩ : ∃ k : Nat, a1.toInt = (k : Int) := ⟨a1.toInt.toNat, by omega⟩
    have e1_0 : ¬ (k : Int) < 0 := by omega
    have e1_1 : 0 ≤ (k : Int) := by omega
    have e1_2 : (k : Int) < 6 := by omega
    have e1_3 : (k : Int) ≤ 5 := by omega
    have e1_4 : ¬ 5 < (k : Int) := by omega
    have e1_5 : ¬ 6 ≤ (k : Int) := by omega
    have e1_6 : ¬ 6 ≤ (k : Int).toNat := by omega
    have e1_n : ¬ 6 ≤ k := by omega
    rcases (show a2.toInt < 0 ∨ 99 < a2.toInt ∨ 0 ≤ a2.toInt ∧ a2.toInt ≤ 99 by omega) with z2 | z2 | z2
    · have z20 := z2
      have e2_0 : a2.toInt < 0 := by omega
      have e2_1 : ¬ 0 ≤ a2.toInt := by omega
      have e2_2 : a2.toInt < 100 := by omega
      have e2_3 : a2.toInt ≤ 99 := by omega
      have e2_4 : ¬ 99 < a2.toInt := by omega
      have e2_5 : ¬ 100 ≤ a2.toInt := by omega
      simp (disch := omega) only [f_X_till, f_M_till, f_X_till_b0, f_M_till_b0, f_X_isSort, f_X_exchange, f_M_isSort, f_M_in, f_X_isSort_b0, f_X_exchange_b0, f_M_isSort_b0, f_M_in_b0, sh_sL, gI_sL, gR_sL, sh_cI, gR_cI, gL_sI, gL_sR, sh_cL, gR_cL, gI_cL, ok_kl, ok_cd, ok_gd, ok_bd, ok_rr1, ok_nr0, ok_nr1, ok_ret, sh_sI, gR_sI, sh_sR, gR_ne, gR_nk, gR_eq, gI_sR, gI_eq, gI_ne, gI_nk, hs, hr, ti_lt, ti_le, ti_eq, ti_nat, ti_0, ti_1, ti_2, ti_3, ti_4, ti_5, ti_6, ti_7, ti_8, ti_9, ti_10, ti_60, ti_99, ti_199, ti_100, ti_19, ti_20, ti_127, ti_n1, true_and, and_true, false_and, and_false, not_false_eq_true, not_true_eq_false, false_implies, true_implies, Int.reduceEq, Int.reduceLT, Int.reduceLE, Int.reduceNeg, or_self, or_true, true_or, or_false, false_or, false_or, implies_true, Int.toNat_natCast, hk, e1_0, e1_1, e1_2, e1_3, e1_4, e1_5, e1_6, e1_n, e2_0, e2_1, e2_2, e2_3, e2_4, e2_5]
      exact h
    · have z20 := z2
      have e2_0 : ¬ a2.toInt < 0 := by omega
      have e2_1 : 0 ≤ a2.toInt := by omega
      have e2_2 : ¬ a2.toInt < 100 := by omega
      have e2_3 : ¬ a2.toInt ≤ 99 := by omega
      have e2_4 : 99 < a2.toInt := by omega
      have e2_5 : 100 ≤ a2.toInt := by omega
      simp (disch := omega) only [f_X_till, f_M_till, f_X_till_b0, f_M_till_b0, f_X_isSort, f_X_exchange, f_M_isSort, f_M_in, f_X_isSort_b0, f_X_exchange_b0, f_M_isSort_b0, f_M_in_b0, sh_sL, gI_sL, gR_sL, sh_cI, gR_cI, gL_sI, gL_sR, sh_cL, gR_cL, gI_cL, ok_kl, ok_cd, ok_gd, ok_bd, ok_rr1, ok_nr0, ok_nr1, ok_ret, sh_sI, gR_sI, sh_sR, gR_ne, gR_nk, gR_eq, gI_sR, gI_eq, gI_ne, gI_nk, hs, hr, ti_lt, ti_le, ti_eq, ti_nat, ti_0, ti_1, ti_2, ti_3, ti_4, ti_5, ti_6, ti_7, ti_8, ti_9, ti_10, ti_60, ti_99, ti_199, ti_100, ti_19, ti_20, ti_127, ti_n1, true_and, and_true, false_and, and_false, not_false_eq_true, not_true_eq_false, false_implies, true_implies, Int.reduceEq, Int.reduceLT, Int.reduceLE, Int.reduceNeg, or_self, or_true, true_or, or_false, false_or, false_or, implies_true, Int.toNat_natCast, hk, e1_0, e1_1, e1_2, e1_3, e1_4, e1_5, e1_6, e1_n, e2_0, e2_1, e2_2, e2_3, e2_4, e2_5]
      exact h
    · have z20 := z2
      have e2_0 : ¬ a2.toInt < 0 := by omega
      have e2_1 : 0 ≤ a2.toInt := by omega
      have e2_2 : a2.toInt < 100 := by omega
      have e2_3 : a2.toInt ≤ 99 := by omega
      have e2_4 : ¬ 99 < a2.toInt := by omega
      have e2_5 : ¬ 100 ≤ a2.toInt := by omega
      have e2_6 : ¬ 100 ≤ a2.toInt.toNat := by omega
      simp (disch := omega) only [f_X_till, f_M_till, f_X_till_b0, f_M_till_b0, f_X_isSort, f_X_exchange, f_M_isSort, f_M_in, f_X_isSort_b0, f_X_exchange_b0, f_M_isSort_b0, f_M_in_b0, sh_sL, gI_sL, gR_sL, sh_cI, gR_cI, gL_sI, gL_sR, sh_cL, gR_cL, gI_cL, ok_kl, ok_cd, ok_gd, ok_bd, ok_rr1, ok_nr0, ok_nr1, ok_ret, sh_sI, gR_sI, sh_sR, gR_ne, gR_nk, gR_eq, gI_sR, gI_eq, gI_ne, gI_nk, hs, hr, ti_lt, ti_le, ti_eq, ti_nat, ti_0, ti_1, ti_2, ti_3, ti_4, ti_5, ti_6, ti_7, ti_8, ti_9, ti_10, ti_60, ti_99, ti_199, ti_100, ti_19, ti_20, ti_127, ti_n1, true_and, and_true, false_and, and_false, not_false_eq_true, not_true_eq_false, false_implies, true_implies, Int.reduceEq, Int.reduceLT, Int.reduceLE, Int.reduceNeg, or_self, or_true, true_or, or_false, false_or, false_or, implies_true, Int.toNat_natCast, hk, e1_0, e1_1, e1_2, e1_3, e1_4, e1_5, e1_6, e1_n, e2_0, e2_1, e2_2, e2_3, e2_4, e2_5, e2_6]
      refine ⟨?_, h.u_till (Fr_sI (Fr_sI Fr.rf (by simp)) (by simp)) ?_ ?_⟩
      · exact congrArg Int32.toInt (h.2.1.atil k (by omega))
      · exact eqA_set h.2.1.atil (by decide)
      · exact rgA_set (rgA_oth h.2.1.atilr (by decide)) (by omega)
