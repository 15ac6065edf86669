set_option maxHeartbeats 8000000 in
theorem p_row {w : gW} {N : Nat} {a1 a2 a3 : Int32} (h : Sim w) : ok (f_X_row N 0 a1 a2 a3 w) (fun r w1 => ok (f_M_row N 133 a1 a2 a3 w1) (fun r' w2 => r = r' ∧ Sim w2)) := by
  have hs := lay_se h.1
  have hr := lay_re h.1
  have hc : gI w 9 1 = gI w 133 0 := h.2.1.acnt
  have hn : 0 ≤ (gI w 133 0).toInt ∧ (gI w 133 0).toInt ≤ 4 := h.2.1.acntr
  have hm : (gI w 133 0 - 1).toInt = (gI w 133 0).toInt - 1 := by rw [ti_sub (by rw [ti_1]; omega), ti_1]
  rcases (show a1.toInt < 0 ∨ (gI w 133 0).toInt ≤ a1.toInt ∨ 0 ≤ a1.toInt ∧ a1.toInt < (gI w 133 0).toInt by omega) with z1 | z1 | z1
  · have z10 := z1
    have e1_0 : a1.toInt < 0 := by omega
    have e1_1 : ¬ 0 ≤ a1.toInt := by omega
    have e1_2 : a1.toInt < (gI w 133 0).toInt := by omega
    have e1_3 : ¬ (gI w 133 0).toInt ≤ a1.toInt := by omega
    have e1_4 : ¬ (gI w 133 0).toInt - 1 < a1.toInt := by omega
    have e1_5 : a1.toInt ≤ (gI w 133 0).toInt - 1 := by omega
    simp (disch := omega) only [f_X_row, f_M_row, f_X_row_b0, f_M_row_b0, f_X_payerAt, f_X_isSort, f_M_isPayer, f_M_in, f_M_isSort, f_X_payerAt_b0, f_X_isSort_b0, f_M_isPayer_b0, f_M_in_b0, f_M_isSort_b0, sh_sL, gI_sL, gR_sL, sh_cI, gR_cI, gL_sI, gL_sR, sh_cL, gR_cL, gI_cL, ok_kl, ok_cd, ok_gd, ok_bd, ok_rr1, ok_nr0, ok_nr1, ok_ret, sh_sI, gR_sI, sh_sR, gR_ne, gR_nk, gR_eq, gI_sR, gI_eq, gI_ne, gI_nk, hs, hr, ti_lt, ti_le, ti_eq, ti_nat, ti_0, ti_1, ti_2, ti_3, ti_4, ti_5, ti_6, ti_7, ti_8, ti_9, ti_10, ti_60, ti_99, ti_199, ti_100, ti_19, ti_20, ti_127, ti_n1, true_and, and_true, false_and, and_false, not_false_eq_true, not_true_eq_false, false_implies, true_implies, Int.reduceEq, Int.reduceLT, Int.reduceLE, Int.reduceNeg, or_self, or_true, true_or, or_false, false_or, false_or, implies_true, Int.toNat_natCast, hc, hm, e1_0, e1_1, e1_2, e1_3, e1_4, e1_5]
    exact h
  · have z10 := z1
    have e1_0 : ¬ a1.toInt < 0 := by omega
    have e1_1 : 0 ≤ a1.toInt := by omega
    have e1_2 : ¬ a1.toInt < (gI w 133 0).toInt := by omega
    have e1_3 : (gI w 133 0).toInt ≤ a1.toInt := by omega
    have e1_4 : (gI w 133 0).toInt - 1 < a1.toInt := by omega
    have e1_5 : ¬ a1.toInt ≤ (gI w 133 0).toInt - 1 := by omega
    simp (disch := omega) only [f_X_row, f_M_row, f_X_row_b0, f_M_row_b0, f_X_payerAt, f_X_isSort, f_M_isPayer, f_M_in, f_M_isSort, f_X_payerAt_b0, f_X_isSort_b0, f_M_isPayer_b0, f_M_in_b0, f_M_isSort_b0, sh_sL, gI_sL, gR_sL, sh_cI, gR_cI, gL_sI, gL_sR, sh_cL, gR_cL, gI_cL, ok_kl, ok_cd, ok_gd, ok_bd, ok_rr1, ok_nr0, ok_nr1, ok_ret, sh_sI, gR_sI, sh_sR, gR_ne, gR_nk, gR_eq, gI_sR, gI_eq, gI_ne, gI_nk, hs, hr, ti_lt, ti_le, ti_eq, ti_nat, ti_0, ti_1, ti_2, ti_3, ti_4, ti_5, ti_6, ti_7, ti_8, ti_9, ti_10, ti_60, ti_99, ti_199, ti_100, ti_19, ti_20, ti_127, ti_n1, true_and, and_true, false_and, and_false, not_false_eq_true, not_true_eq_false, false_implies, true_implies, Int.reduceEq, Int.reduceLT, Int.reduceLE, Int.reduceNeg, or_self, or_true, true_or, or_false, false_or, false_or, implies_true, Int.toNat_natCast, hc, hm, e1_0, e1_1, e1_2, e1_3, e1_4, e1_5]
    exact h
  · obtain ⟨p, hp⟩ : ∃ p : Nat, a1.toInt = (p : Int) := ⟨a1.toInt.toNat, by omega⟩
    have e1_0 : ¬ (p : Int) < 0 := by omega
    have e1_1 : 0 ≤ (p : Int) := by omega
    have e1_2 : (p : Int) < (gI w 133 0).toInt := by omega
    have e1_3 : ¬ (gI w 133 0).toInt ≤ (p : Int) := by omega
    have e1_4 : ¬ (gI w 133 0).toInt - 1 < (p : Int) := by omega
    have e1_5 : (p : Int) ≤ (gI w 133 0).toInt - 1 := by omega
    have hx2 : ¬ 4 ≤ p := by omega
    obtain ⟨o, ho, ho182, honx, ho7, hok, hok0, -, -⟩ := h.2.1.apyr p (by omega) (by omega)
    have hq := lay_r16 h.1 (p := p) (by omega)
    have hq2 := lay_s17 h.1 (p := p) (by omega)
    rcases (show a2.toInt < 0 ∨ 3 < a2.toInt ∨ 0 ≤ a2.toInt ∧ a2.toInt ≤ 3 by omega) with z2 | z2 | z2
    · have z20 := z2
      have e2_0 : a2.toInt < 0 := by omega
      have e2_1 : ¬ 0 ≤ a2.toInt := by omega
      have e2_2 : a2.toInt < 4 := by omega
      have e2_3 : a2.toInt ≤ 3 := by omega
      have e2_4 : ¬ 3 < a2.toInt := by omega
      have e2_5 : ¬ 4 ≤ a2.toInt := by omega
      simp (disch := omega) only [f_X_row, f_M_row, f_X_row_b0, f_M_row_b0, f_X_payerAt, f_X_isSort, f_M_isPayer, f_M_in, f_M_isSort, f_X_payerAt_b0, f_X_isSort_b0, f_M_isPayer_b0, f_M_in_b0, f_M_isSort_b0, sh_sL, gI_sL, gR_sL, sh_cI, gR_cI, gL_sI, gL_sR, sh_cL, gR_cL, gI_cL, ok_kl, ok_cd, ok_gd, ok_bd, ok_rr1, ok_nr0, ok_nr1, ok_ret, sh_sI, gR_sI, sh_sR, gR_ne, gR_nk, gR_eq, gI_sR, gI_eq, gI_ne, gI_nk, hs, hr, ti_lt, ti_le, ti_eq, ti_nat, ti_0, ti_1, ti_2, ti_3, ti_4, ti_5, ti_6, ti_7, ti_8, ti_9, ti_10, ti_60, ti_99, ti_199, ti_100, ti_19, ti_20, ti_127, ti_n1, true_and, and_true, false_and, and_false, not_false_eq_true, not_true_eq_false, false_implies, true_implies, Int.reduceEq, Int.reduceLT, Int.reduceLE, Int.reduceNeg, or_self, or_true, true_or, or_false, false_or, false_or, implies_true, Int.toNat_natCast, hc, hm, hp, e1_0, e1_1, e1_2, e1_3, e1_4, e1_5, ho, hx2, ho7, hok0, hq, hq2, e2_0, e2_1, e2_2, e2_3, e2_4, e2_5]
      exact h
    · have z20 := z2
      have e2_0 : ¬ a2.toInt < 0 := by omega
      have e2_1 : 0 ≤ a2.toInt := by omega
      have e2_2 : ¬ a2.toInt < 4 := by omega
      have e2_3 : ¬ a2.toInt ≤ 3 := by omega
      have e2_4 : 3 < a2.toInt := by omega
      have e2_5 : 4 ≤ a2.toInt := by omega
      simp (disch := omega) only [f_X_row, f_M_row, f_X_row_b0, f_M_row_b0, f_X_payerAt, f_X_isSort, f_M_isPayer, f_M_in, f_M_isSort, f_X_payerAt_b0, f_X_isSort_b0, f_M_isPayer_b0, f_M_in_b0, f_M_isSort_b0, sh_sL, gI_sL, gR_sL, sh_cI, gR_cI, gL_sI, gL_sR, sh_cL, gR_cL, gI_cL, ok_kl, ok_cd, ok_gd, ok_bd, ok_rr1, ok_nr0, ok_nr1, ok_ret, sh_sI, gR_sI, sh_sR, gR_ne, gR_nk, gR_eq, gI_sR, gI_eq, gI_ne, gI_nk, hs, hr, ti_lt, ti_le, ti_eq, ti_nat, ti_0, ti_1, ti_2, ti_3, ti_4, ti_5, ti_6, ti_7, ti_8, ti_9, ti_10, ti_60, ti_99, ti_199, ti_100, ti_19, ti_20, ti_127, ti_n1, true_and, and_true, false_and, and_false, not_false_eq_true, not_true_eq_false, false_implies, true_implies, Int.reduceEq, Int.reduceLT, Int.reduceLE, Int.reduceNeg, or_self, or_true, true_or, or_false, false_or, false_or, implies_true, Int.toNat_natCast, hc, hm, hp, e1_0, e1_1, e1_2, e1_3, e1_4, e1_5, ho, hx2, ho7, hok0, hq, hq2, e2_0, e2_1, e2_2, e2_3, e2_4, e2_5]
      exact h
    · obtain ⟨k, hk⟩ : ∃ k : Nat, a2.toInt = (k : Int) := ⟨a2.toInt.toNat, by omega⟩
      have e2_0 : ¬ (k : Int) < 0 := by omega
      have e2_1 : 0 ≤ (k : Int) := by omega
      have e2_2 : (k : Int) < 4 := by omega
      have e2_3 : (k : Int) ≤ 3 := by omega
      have e2_4 : ¬ 3 < (k : Int) := by omega
      have e2_5 : ¬ 4 ≤ (k : Int) := by omega
      have e2_6 : ¬ 4 ≤ (k : Int).toNat := by omega
      have e2_n : ¬ 4 ≤ k := by omega
      rcases (show a3.toInt < 0 ∨ 5 < a3.toInt ∨ 0 ≤ a3.toInt ∧ a3.toInt ≤ 5 by omega) with z3 | z3 | z3
      · have z30 := z3
        have e3_0 : a3.toInt < 0 := by omega
        have e3_1 : ¬ 0 ≤ a3.toInt := by omega
        have e3_2 : a3.toInt < 6 := by omega
        have e3_3 : a3.toInt ≤ 5 := by omega
        have e3_4 : ¬ 5 < a3.toInt := by omega
        have e3_5 : ¬ 6 ≤ a3.toInt := by omega
        simp (disch := omega) only [f_X_row, f_M_row, f_X_row_b0, f_M_row_b0, f_X_payerAt, f_X_isSort, f_M_isPayer, f_M_in, f_M_isSort, f_X_payerAt_b0, f_X_isSort_b0, f_M_isPayer_b0, f_M_in_b0, f_M_isSort_b0, sh_sL, gI_sL, gR_sL, sh_cI, gR_cI, gL_sI, gL_sR, sh_cL, gR_cL, gI_cL, ok_kl, ok_cd, ok_gd, ok_bd, ok_rr1, ok_nr0, ok_nr1, ok_ret, sh_sI, gR_sI, sh_sR, gR_ne, gR_nk, gR_eq, gI_sR, gI_eq, gI_ne, gI_nk, hs, hr, ti_lt, ti_le, ti_eq, ti_nat, ti_0, ti_1, ti_2, ti_3, ti_4, ti_5, ti_6, ti_7, ti_8, ti_9, ti_10, ti_60, ti_99, ti_199, ti_100, ti_19, ti_20, ti_127, ti_n1, true_and, and_true, false_and, and_false, not_false_eq_true, not_true_eq_false, false_implies, true_implies, Int.reduceEq, Int.reduceLT, Int.reduceLE, Int.reduceNeg, or_self, or_true, true_or, or_false, false_or, false_or, implies_true, Int.toNat_natCast, hc, hm, hp, e1_0, e1_1, e1_2, e1_3, e1_4, e1_5, ho, hx2, ho7, hok0, hq, hq2, hk, e2_0, e2_1, e2_2, e2_3, e2_4, e2_5, e2_6, e2_n, e3_0, e3_1, e3_2, e3_3, e3_4, e3_5]
        exact h
      · have z30 := z3
        have e3_0 : ¬ a3.toInt < 0 := by omega
        have e3_1 : 0 ≤ a3.toInt := by omega
        have e3_2 : ¬ a3.toInt < 6 := by omega
        have e3_3 : ¬ a3.toInt ≤ 5 := by omega
        have e3_4 : 5 < a3.toInt := by omega
        have e3_5 : 6 ≤ a3.toInt := by omega
        simp (disch := omega) only [f_X_row, f_M_row, f_X_row_b0, f_M_row_b0, f_X_payerAt, f_X_isSort, f_M_isPayer, f_M_in, f_M_isSort, f_X_payerAt_b0, f_X_isSort_b0, f_M_isPayer_b0, f_M_in_b0, f_M_isSort_b0, sh_sL, gI_sL, gR_sL, sh_cI, gR_cI, gL_sI, gL_sR, sh_cL, gR_cL, gI_cL, ok_kl, ok_cd, ok_gd, ok_bd, ok_rr1, ok_nr0, ok_nr1, ok_ret, sh_sI, gR_sI, sh_sR, gR_ne, gR_nk, gR_eq, gI_sR, gI_eq, gI_ne, gI_nk, hs, hr, ti_lt, ti_le, ti_eq, ti_nat, ti_0, ti_1, ti_2, ti_3, ti_4, ti_5, ti_6, ti_7, ti_8, ti_9, ti_10, ti_60, ti_99, ti_199, ti_100, ti_19, ti_20, ti_127, ti_n1, true_and, and_true, false_and, and_false, not_false_eq_true, not_true_eq_false, false_implies, true_implies, Int.reduceEq, Int.reduceLT, Int.reduceLE, Int.reduceNeg, or_self, or_true, true_or, or_false, false_or, false_or, implies_true, Int.toNat_natCast, hc, hm, hp, e1_0, e1_1, e1_2, e1_3, e1_4, e1_5, ho, hx2, ho7, hok0, hq, hq2, hk, e2_0, e2_1, e2_2, e2_3, e2_4, e2_5, e2_6, e2_n, e3_0, e3_1, e3_2, e3_3, e3_4, e3_5]
        exact h
      · have z30 := z3
        have e3_0 : ¬ a3.toInt < 0 := by omega
        have e3_1 : 0 ≤ a3.toInt := by omega
        have e3_2 : a3.toInt < 6 := by omega
        have e3_3 : a3.toInt ≤ 5 := by omega
        have e3_4 : ¬ 5 < a3.toInt := by omega
        have e3_5 : ¬ 6 ≤ a3.toInt := by omega
        have e3_6 : ¬ 6 ≤ a3.toInt.toNat := by omega
        by_cases hk6 : (gI w 135 p).toInt = 6
        · have hk60 := hk6
          have hx : (4 * a1 + a2).toInt = ((4 * p + k : Nat) : Int) := by rw [ti_add, ti_mul, ti_4, hp, hk] <;> (try rw [ti_mul]) <;> (try rw [ti_4, hp]) <;> omega
          have hx0 : ¬ ((4 * p + k : Nat) : Int) < 0 := by omega
          have hx1 : ¬ 16 ≤ 4 * p + k := by omega
          simp (disch := omega) only [f_X_row, f_M_row, f_X_row_b0, f_M_row_b0, f_X_payerAt, f_X_isSort, f_M_isPayer, f_M_in, f_M_isSort, f_X_payerAt_b0, f_X_isSort_b0, f_M_isPayer_b0, f_M_in_b0, f_M_isSort_b0, sh_sL, gI_sL, gR_sL, sh_cI, gR_cI, gL_sI, gL_sR, sh_cL, gR_cL, gI_cL, ok_kl, ok_cd, ok_gd, ok_bd, ok_rr1, ok_nr0, ok_nr1, ok_ret, sh_sI, gR_sI, sh_sR, gR_ne, gR_nk, gR_eq, gI_sR, gI_eq, gI_ne, gI_nk, hs, hr, ti_lt, ti_le, ti_eq, ti_nat, ti_0, ti_1, ti_2, ti_3, ti_4, ti_5, ti_6, ti_7, ti_8, ti_9, ti_10, ti_60, ti_99, ti_199, ti_100, ti_19, ti_20, ti_127, ti_n1, true_and, and_true, false_and, and_false, not_false_eq_true, not_true_eq_false, false_implies, true_implies, Int.reduceEq, Int.reduceLT, Int.reduceLE, Int.reduceNeg, or_self, or_true, true_or, or_false, false_or, false_or, implies_true, Int.toNat_natCast, hc, hm, hx, hx0, hx1, hp, e1_0, e1_1, e1_2, e1_3, e1_4, e1_5, ho, hx2, ho7, hok0, hq, hq2, hk, e2_0, e2_1, e2_2, e2_3, e2_4, e2_5, e2_6, e2_n, e3_0, e3_1, e3_2, e3_3, e3_4, e3_5, e3_6, hk6]
          have hp4 : p < 4 := by omega
          refine ⟨?_, h.u_row (Fr_sI (Fr_sI Fr.rf (by simp only [List.mem_cons]; omega)) (by simp)) ?_ ?_ ?_⟩
          · exact congrArg Int32.toInt (h.2.1.arow p k (by omega) (by omega))
          · exact grd_set h.2.1.arow hp4 (by omega) (by omega) (by omega) (by omega)
          · exact zer_set (zer_oth h.2.1.arowz (by omega) (by omega)) (by decide) hp4 (by omega) (by rw [gI_ne (by omega)]; exact e1_2)
          · exact rgA_set (rgA_oth h.2.1.arowr (by omega)) (by omega)
        · have hk60 := hk6
          simp (disch := omega) only [f_X_row, f_M_row, f_X_row_b0, f_M_row_b0, f_X_payerAt, f_X_isSort, f_M_isPayer, f_M_in, f_M_isSort, f_X_payerAt_b0, f_X_isSort_b0, f_M_isPayer_b0, f_M_in_b0, f_M_isSort_b0, sh_sL, gI_sL, gR_sL, sh_cI, gR_cI, gL_sI, gL_sR, sh_cL, gR_cL, gI_cL, ok_kl, ok_cd, ok_gd, ok_bd, ok_rr1, ok_nr0, ok_nr1, ok_ret, sh_sI, gR_sI, sh_sR, gR_ne, gR_nk, gR_eq, gI_sR, gI_eq, gI_ne, gI_nk, hs, hr, ti_lt, ti_le, ti_eq, ti_nat, ti_0, ti_1, ti_2, ti_3, ti_4, ti_5, ti_6, ti_7, ti_8, ti_9, ti_10, ti_60, ti_99, ti_199, ti_100, ti_19, ti_20, ti_127, ti_n1, true_and, and_true, false_and, and_false, not_false_eq_true, not_true_eq_false, false_implies, true_implies, Int.reduceEq, Int.reduceLT, Int.reduceLE, Int.reduceNeg, or_self, or_true, true_or, or_false, false_or, false_or, implies_true, Int.toNat_natCast, hc, hm, hp, e1_0, e1_1, e1_2, e1_3, e1_4, e1_5, ho, hx2, ho7, hok0, hq, hq2, hk, e2_0, e2_1, e2_2, e2_3, e2_4, e2_5, e2_6, e2_n, e3_0, e3_1, e3_2, e3_3, e3_4, e3_5, e3_6, hk6]
          exact h
