set_option maxHeartbeats 8000000 in
theorem p_count {w : gW} {N : Nat} {a1 : Int32} (h : Sim w) : ok (f_X_count N 0 a1 w) (fun r w1 => ok (f_M_count N 133 a1 w1) (fun r' w2 => r = r' ∧ Sim w2)) := by
  have hs := lay_se h.1
  have hr := lay_re h.1
  have hc1 : gI w 9 1 = gI w 133 0 := h.2.1.acnt
  have hc2 : gI w 0 7 = gI w 133 8 := h.2.1.tws
  have hc3 : gI w 9 7 = gI w 133 41 := h.2.1.aprc
  have hc4 : gI w 9 10 = gI w 133 43 := h.2.1.asee
  have hc5 : gI w 9 13 = gI w 133 46 := h.2.1.abok
  have hc6 : gI w 0 9 = gI w 133 10 := h.2.1.fed
  have hc7 : gI w 74 1 = gI w 133 66 := h.2.1.ran
  by_cases e0 : a1.toInt = 0
  · have e00 := e0
    simp (disch := omega) only [f_X_count, f_M_count, f_X_count_b0, f_M_count_b0, sh_sL, gI_sL, gR_sL, sh_cI, gR_cI, gL_sI, gL_sR, sh_cL, gR_cL, gI_cL, ok_kl, ok_cd, ok_gd, ok_bd, ok_rr1, ok_nr0, ok_nr1, ok_ret, sh_sI, gR_sI, sh_sR, gR_ne, gR_nk, gR_eq, gI_sR, gI_eq, gI_ne, gI_nk, hs, hr, ti_lt, ti_le, ti_eq, ti_nat, ti_0, ti_1, ti_2, ti_3, ti_4, ti_5, ti_6, ti_7, ti_8, ti_9, ti_10, ti_60, ti_99, ti_199, ti_100, ti_19, ti_20, ti_127, ti_n1, true_and, and_true, false_and, and_false, not_false_eq_true, not_true_eq_false, false_implies, true_implies, Int.reduceEq, Int.reduceLT, Int.reduceLE, Int.reduceNeg, or_self, or_true, true_or, or_false, false_or, false_or, implies_true, Int.toNat_natCast, hc1, hc2, hc3, hc4, hc5, hc6, hc7, e0]
    exact h
  · have e00 := e0
    by_cases e1 : a1.toInt = 1
    · have e10 := e1
      simp (disch := omega) only [f_X_count, f_M_count, f_X_count_b0, f_M_count_b0, sh_sL, gI_sL, gR_sL, sh_cI, gR_cI, gL_sI, gL_sR, sh_cL, gR_cL, gI_cL, ok_kl, ok_cd, ok_gd, ok_bd, ok_rr1, ok_nr0, ok_nr1, ok_ret, sh_sI, gR_sI, sh_sR, gR_ne, gR_nk, gR_eq, gI_sR, gI_eq, gI_ne, gI_nk, hs, hr, ti_lt, ti_le, ti_eq, ti_nat, ti_0, ti_1, ti_2, ti_3, ti_4, ti_5, ti_6, ti_7, ti_8, ti_9, ti_10, ti_60, ti_99, ti_199, ti_100, ti_19, ti_20, ti_127, ti_n1, true_and, and_true, false_and, and_false, not_false_eq_true, not_true_eq_false, false_implies, true_implies, Int.reduceEq, Int.reduceLT, Int.reduceLE, Int.reduceNeg, or_self, or_true, true_or, or_false, false_or, false_or, implies_true, Int.toNat_natCast, hc1, hc2, hc3, hc4, hc5, hc6, hc7, e0, e1]
      exact h
    · have e10 := e1
      by_cases e2 : a1.toInt = 2
      · have e20 := e2
        simp (disch := omega) only [f_X_count, f_M_count, f_X_count_b0, f_M_count_b0, sh_sL, gI_sL, gR_sL, sh_cI, gR_cI, gL_sI, gL_sR, sh_cL, gR_cL, gI_cL, ok_kl, ok_cd, ok_gd, ok_bd, ok_rr1, ok_nr0, ok_nr1, ok_ret, sh_sI, gR_sI, sh_sR, gR_ne, gR_nk, gR_eq, gI_sR, gI_eq, gI_ne, gI_nk, hs, hr, ti_lt, ti_le, ti_eq, ti_nat, ti_0, ti_1, ti_2, ti_3, ti_4, ti_5, ti_6, ti_7, ti_8, ti_9, ti_10, ti_60, ti_99, ti_199, ti_100, ti_19, ti_20, ti_127, ti_n1, true_and, and_true, false_and, and_false, not_false_eq_true, not_true_eq_false, false_implies, true_implies, Int.reduceEq, Int.reduceLT, Int.reduceLE, Int.reduceNeg, or_self, or_true, true_or, or_false, false_or, false_or, implies_true, Int.toNat_natCast, hc1, hc2, hc3, hc4, hc5, hc6, hc7, e0, e1, e2]
        exact h
      · have e20 := e2
        by_cases e3 : a1.toInt = 3
        · have e30 := e3
          simp (disch := omega) only [f_X_count, f_M_count, f_X_count_b0, f_M_count_b0, sh_sL, gI_sL, gR_sL, sh_cI, gR_cI, gL_sI, gL_sR, sh_cL, gR_cL, gI_cL, ok_kl, ok_cd, ok_gd, ok_bd, ok_rr1, ok_nr0, ok_nr1, ok_ret, sh_sI, gR_sI, sh_sR, gR_ne, gR_nk, gR_eq, gI_sR, gI_eq, gI_ne, gI_nk, hs, hr, ti_lt, ti_le, ti_eq, ti_nat, ti_0, ti_1, ti_2, ti_3, ti_4, ti_5, ti_6, ti_7, ti_8, ti_9, ti_10, ti_60, ti_99, ti_199, ti_100, ti_19, ti_20, ti_127, ti_n1, true_and, and_true, false_and, and_false, not_false_eq_true, not_true_eq_false, false_implies, true_implies, Int.reduceEq, Int.reduceLT, Int.reduceLE, Int.reduceNeg, or_self, or_true, true_or, or_false, false_or, false_or, implies_true, Int.toNat_natCast, hc1, hc2, hc3, hc4, hc5, hc6, hc7, e0, e1, e2, e3]
          exact h
        · have e30 := e3
          by_cases e4 : a1.toInt = 4
          · have e40 := e4
            simp (disch := omega) only [f_X_count, f_M_count, f_X_count_b0, f_M_count_b0, sh_sL, gI_sL, gR_sL, sh_cI, gR_cI, gL_sI, gL_sR, sh_cL, gR_cL, gI_cL, ok_kl, ok_cd, ok_gd, ok_bd, ok_rr1, ok_nr0, ok_nr1, ok_ret, sh_sI, gR_sI, sh_sR, gR_ne, gR_nk, gR_eq, gI_sR, gI_eq, gI_ne, gI_nk, hs, hr, ti_lt, ti_le, ti_eq, ti_nat, ti_0, ti_1, ti_2, ti_3, ti_4, ti_5, ti_6, ti_7, ti_8, ti_9, ti_10, ti_60, ti_99, ti_199, ti_100, ti_19, ti_20, ti_127, ti_n1, true_and, and_true, false_and, and_false, not_false_eq_true, not_true_eq_false, false_implies, true_implies, Int.reduceEq, Int.reduceLT, Int.reduceLE, Int.reduceNeg, or_self, or_true, true_or, or_false, false_or, false_or, implies_true, Int.toNat_natCast, hc1, hc2, hc3, hc4, hc5, hc6, hc7, e0, e1, e2, e3, e4]
            exact h
          · have e40 := e4
            by_cases e5 : a1.toInt = 5
            · have e50 := e5
              simp (disch := omega) only [f_X_count, f_M_count, f_X_count_b0, f_M_count_b0, sh_sL, gI_sL, gR_sL, sh_cI, gR_cI, gL_sI, gL_sR, sh_cL, gR_cL, gI_cL, ok_kl, ok_cd, ok_gd, ok_bd, ok_rr1, ok_nr0, ok_nr1, ok_ret, sh_sI, gR_sI, sh_sR, gR_ne, gR_nk, gR_eq, gI_sR, gI_eq, gI_ne, gI_nk, hs, hr, ti_lt, ti_le, ti_eq, ti_nat, ti_0, ti_1, ti_2, ti_3, ti_4, ti_5, ti_6, ti_7, ti_8, ti_9, ti_10, ti_60, ti_99, ti_199, ti_100, ti_19, ti_20, ti_127, ti_n1, true_and, and_true, false_and, and_false, not_false_eq_true, not_true_eq_false, false_implies, true_implies, Int.reduceEq, Int.reduceLT, Int.reduceLE, Int.reduceNeg, or_self, or_true, true_or, or_false, false_or, false_or, implies_true, Int.toNat_natCast, hc1, hc2, hc3, hc4, hc5, hc6, hc7, e0, e1, e2, e3, e4, e5]
              exact h
            · have e50 := e5
              by_cases e6 : a1.toInt = 6
              · have e60 := e6
                simp (disch := omega) only [f_X_count, f_M_count, f_X_count_b0, f_M_count_b0, sh_sL, gI_sL, gR_sL, sh_cI, gR_cI, gL_sI, gL_sR, sh_cL, gR_cL, gI_cL, ok_kl, ok_cd, ok_gd, ok_bd, ok_rr1, ok_nr0, ok_nr1, ok_ret, sh_sI, gR_sI, sh_sR, gR_ne, gR_nk, gR_eq, gI_sR, gI_eq, gI_ne, gI_nk, hs, hr, ti_lt, ti_le, ti_eq, ti_nat, ti_0, ti_1, ti_2, ti_3, ti_4, ti_5, ti_6, ti_7, ti_8, ti_9, ti_10, ti_60, ti_99, ti_199, ti_100, ti_19, ti_20, ti_127, ti_n1, true_and, and_true, false_and, and_false, not_false_eq_true, not_true_eq_false, false_implies, true_implies, Int.reduceEq, Int.reduceLT, Int.reduceLE, Int.reduceNeg, or_self, or_true, true_or, or_false, false_or, false_or, implies_true, Int.toNat_natCast, hc1, hc2, hc3, hc4, hc5, hc6, hc7, e0, e1, e2, e3, e4, e5, e6]
                exact h
              · have e60 := e6
                simp (disch := omega) only [f_X_count, f_M_count, f_X_count_b0, f_M_count_b0, sh_sL, gI_sL, gR_sL, sh_cI, gR_cI, gL_sI, gL_sR, sh_cL, gR_cL, gI_cL, ok_kl, ok_cd, ok_gd, ok_bd, ok_rr1, ok_nr0, ok_nr1, ok_ret, sh_sI, gR_sI, sh_sR, gR_ne, gR_nk, gR_eq, gI_sR, gI_eq, gI_ne, gI_nk, hs, hr, ti_lt, ti_le, ti_eq, ti_nat, ti_0, ti_1, ti_2, ti_3, ti_4, ti_5, ti_6, ti_7, ti_8, ti_9, ti_10, ti_60, ti_99, ti_199, ti_100, ti_19, ti_20, ti_127, ti_n1, true_and, and_true, false_and, and_false, not_false_eq_true, not_true_eq_false, false_implies, true_implies, Int.reduceEq, Int.reduceLT, Int.reduceLE, Int.reduceNeg, or_self, or_true, true_or, or_false, false_or, false_or, implies_true, Int.toNat_natCast, hc1, hc2, hc3, hc4, hc5, hc6, hc7, e0, e1, e2, e3, e4, e5, e6]
                exact h
