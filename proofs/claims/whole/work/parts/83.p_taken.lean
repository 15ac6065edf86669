set_option maxHeartbeats 8000000 in
theorem p_taken {w : gW} {N : Nat} {a1 a2 : Int32} (h : Sim w) : ok (f_X_taken N 0 a1 a2 w) (fun r w1 => ok (f_M_taken N 133 a1 a2 w1) (fun r' w2 => r = r' ∧ Sim w2)) := by
  have hs := lay_se h.1
  have hr := lay_re h.1
  have hc : gI w 9 1 = gI w 133 0 := h.2.1.acnt
  have hn : 0 ≤ (gI w 133 0).toInt ∧ (gI w 133 0).toInt ≤ 4 := h.2.1.acntr
  have hm : (gI w 133 0 - 1).toInt = (gI w 133 0).toInt - 1 := by rw [ti_sub (by rw [ti_1]; omega), ti_1]
  rcases (show a2.toInt < 0 ∨ 6 < a2.toInt ∨ 0 ≤ a2.toInt ∧ a2.toInt ≤ 6 by omega) with z2 | z2 | z2
  · have z20 := z2
    have e2_0 : a2.toInt < 0 := by omega
    have e2_1 : ¬ 0 ≤ a2.toInt := by omega
    have e2_2 : a2.toInt < 7 := by omega
    have e2_3 : a2.toInt ≤ 6 := by omega
    have e2_4 : ¬ 6 < a2.toInt := by omega
    have e2_5 : ¬ 7 ≤ a2.toInt := by omega
    simp (disch := omega) only [f_X_taken, f_M_taken, f_X_taken_b0, f_M_taken_b0, f_X_payerAt, f_X_isOfKind, f_M_in, f_M_isPayer, f_M_taken_b51, f_X_payerAt_b0, f_X_isOfKind_b0, f_M_in_b0, f_M_isPayer_b0, f_M_taken_b61, sh_sL, gI_sL, gR_sL, sh_cI, gR_cI, gL_sI, gL_sR, sh_cL, gR_cL, gI_cL, ok_kl, ok_cd, ok_gd, ok_bd, ok_rr1, ok_nr0, ok_nr1, ok_ret, sh_sI, gR_sI, sh_sR, gR_ne, gR_nk, gR_eq, gI_sR, gI_eq, gI_ne, gI_nk, hs, hr, ti_lt, ti_le, ti_eq, ti_nat, ti_0, ti_1, ti_2, ti_3, ti_4, ti_5, ti_6, ti_7, ti_8, ti_9, ti_10, ti_60, ti_99, ti_199, ti_100, ti_19, ti_20, ti_127, ti_n1, true_and, and_true, false_and, and_false, not_false_eq_true, not_true_eq_false, false_implies, true_implies, Int.reduceEq, Int.reduceLT, Int.reduceLE, Int.reduceNeg, or_self, or_true, true_or, or_false, false_or, false_or, implies_true, Int.toNat_natCast, hc, hm, instE, instRo, instKe, instLi, instWi, instTo, Nat.reduceEqDiff, if_true, if_false, reduceIte, Nat.reduceLT, e2_0, e2_1, e2_2, e2_3, e2_4, e2_5]
    exact h
  · have z20 := z2
    have e2_0 : ¬ a2.toInt < 0 := by omega
    have e2_1 : 0 ≤ a2.toInt := by omega
    have e2_2 : ¬ a2.toInt < 7 := by omega
    have e2_3 : ¬ a2.toInt ≤ 6 := by omega
    have e2_4 : 6 < a2.toInt := by omega
    have e2_5 : 7 ≤ a2.toInt := by omega
    simp (disch := omega) only [f_X_taken, f_M_taken, f_X_taken_b0, f_M_taken_b0, f_X_payerAt, f_X_isOfKind, f_M_in, f_M_isPayer, f_M_taken_b51, f_X_payerAt_b0, f_X_isOfKind_b0, f_M_in_b0, f_M_isPayer_b0, f_M_taken_b61, sh_sL, gI_sL, gR_sL, sh_cI, gR_cI, gL_sI, gL_sR, sh_cL, gR_cL, gI_cL, ok_kl, ok_cd, ok_gd, ok_bd, ok_rr1, ok_nr0, ok_nr1, ok_ret, sh_sI, gR_sI, sh_sR, gR_ne, gR_nk, gR_eq, gI_sR, gI_eq, gI_ne, gI_nk, hs, hr, ti_lt, ti_le, ti_eq, ti_nat, ti_0, ti_1, ti_2, ti_3, ti_4, ti_5, ti_6, ti_7, ti_8, ti_9, ti_10, ti_60, ti_99, ti_199, ti_100, ti_19, ti_20, ti_127, ti_n1, true_and, and_true, false_and, and_false, not_false_eq_true, not_true_eq_false, false_implies, true_implies, Int.reduceEq, Int.reduceLT, Int.reduceLE, Int.reduceNeg, or_self, or_true, true_or, or_false, false_or, false_or, implies_true, Int.toNat_natCast, hc, hm, instE, instRo, instKe, instLi, instWi, instTo, Nat.reduceEqDiff, if_true, if_false, reduceIte, Nat.reduceLT, e2_0, e2_1, e2_2, e2_3, e2_4, e2_5]
    exact h
  · have z20 := z2
    have e2_0 : ¬ a2.toInt < 0 := by omega
    have e2_1 : 0 ≤ a2.toInt := by omega
    have e2_2 : a2.toInt < 7 := by omega
    have e2_3 : a2.toInt ≤ 6 := by omega
    have e2_4 : ¬ 6 < a2.toInt := by omega
    have e2_5 : ¬ 7 ≤ a2.toInt := by omega
    have e2_6 : ¬ 7 ≤ a2.toInt.toNat := by omega
    rcases (show a1.toInt < 0 ∨ (gI w 133 0).toInt ≤ a1.toInt ∨ 0 ≤ a1.toInt ∧ a1.toInt < (gI w 133 0).toInt by omega) with z1 | z1 | z1
    · have z10 := z1
      have e1_0 : a1.toInt < 0 := by omega
      have e1_1 : ¬ 0 ≤ a1.toInt := by omega
      have e1_2 : a1.toInt < (gI w 133 0).toInt := by omega
      have e1_3 : ¬ (gI w 133 0).toInt ≤ a1.toInt := by omega
      have e1_4 : ¬ (gI w 133 0).toInt - 1 < a1.toInt := by omega
      have e1_5 : a1.toInt ≤ (gI w 133 0).toInt - 1 := by omega
      simp (disch := omega) only [f_X_taken, f_M_taken, f_X_taken_b0, f_M_taken_b0, f_X_payerAt, f_X_isOfKind, f_M_in, f_M_isPayer, f_M_taken_b51, f_X_payerAt_b0, f_X_isOfKind_b0, f_M_in_b0, f_M_isPayer_b0, f_M_taken_b61, sh_sL, gI_sL, gR_sL, sh_cI, gR_cI, gL_sI, gL_sR, sh_cL, gR_cL, gI_cL, ok_kl, ok_cd, ok_gd, ok_bd, ok_rr1, ok_nr0, ok_nr1, ok_ret, sh_sI, gR_sI, sh_sR, gR_ne, gR_nk, gR_eq, gI_sR, gI_eq, gI_ne, gI_nk, hs, hr, ti_lt, ti_le, ti_eq, ti_nat, ti_0, ti_1, ti_2, ti_3, ti_4, ti_5, ti_6, ti_7, ti_8, ti_9, ti_10, ti_60, ti_99, ti_199, ti_100, ti_19, ti_20, ti_127, ti_n1, true_and, and_true, false_and, and_false, not_false_eq_true, not_true_eq_false, false_implies, true_implies, Int.reduceEq, Int.reduceLT, Int.reduceLE, Int.reduceNeg, or_self, or_true, true_or, or_false, false_or, false_or, implies_true, Int.toNat_natCast, hc, hm, instE, instRo, instKe, instLi, instWi, instTo, Nat.reduceEqDiff, if_true, if_false, reduceIte, Nat.reduceLT, e2_0, e2_1, e2_2, e2_3, e2_4, e2_5, e2_6, e1_0, e1_1, e1_2, e1_3, e1_4, e1_5]
      exact h
    · have z10 := z1
      have e1_0 : ¬ a1.toInt < 0 := by omega
      have e1_1 : 0 ≤ a1.toInt := by omega
      have e1_2 : ¬ a1.toInt < (gI w 133 0).toInt := by omega
      have e1_3 : (gI w 133 0).toInt ≤ a1.toInt := by omega
      have e1_4 : (gI w 133 0).toInt - 1 < a1.toInt := by omega
      have e1_5 : ¬ a1.toInt ≤ (gI w 133 0).toInt - 1 := by omega
      simp (disch := omega) only [f_X_taken, f_M_taken, f_X_taken_b0, f_M_taken_b0, f_X_payerAt, f_X_isOfKind, f_M_in, f_M_isPayer, f_M_taken_b51, f_X_payerAt_b0, f_X_isOfKind_b0, f_M_in_b0, f_M_isPayer_b0, f_M_taken_b61, sh_sL, gI_sL, gR_sL, sh_cI, gR_cI, gL_sI, gL_sR, sh_cL, gR_cL, gI_cL, ok_kl, ok_cd, ok_gd, ok_bd, ok_rr1, ok_nr0, ok_nr1, ok_ret, sh_sI, gR_sI, sh_sR, gR_ne, gR_nk, gR_eq, gI_sR, gI_eq, gI_ne, gI_nk, hs, hr, ti_lt, ti_le, ti_eq, ti_nat, ti_0, ti_1, ti_2, ti_3, ti_4, ti_5, ti_6, ti_7, ti_8, ti_9, ti_10, ti_60, ti_99, ti_199, ti_100, ti_19, ti_20, ti_127, ti_n1, true_and, and_true, false_and, and_false, not_false_eq_true, not_true_eq_false, false_implies, true_implies, Int.reduceEq, Int.reduceLT, Int.reduceLE, Int.reduceNeg, or_self, or_true, true_or, or_false, false_or, false_or, implies_true, Int.toNat_natCast, hc, hm, instE, instRo, instKe, instLi, instWi, instTo, Nat.reduceEqDiff, if_true, if_false, reduceIte, Nat.reduceLT, e2_0, e2_1, e2_2, e2_3, e2_4, e2_5, e2_6, e1_0, e1_1, e1_2, e1_3, e1_4, e1_5]
      exact h
    · obtain ⟨p, hp⟩ : ∃ p : Nat, a1.toInt = (p : Int) := ⟨a1.toInt.toNat, by omega⟩
      have e1_0 : ¬ (p : Int) < 0 := by omega
      have e1_1 : 0 ≤ (p : Int) := by omega
      have e1_2 : (p : Int) < (gI w 133 0).toInt := by omega
      have e1_3 : ¬ (gI w 133 0).toInt ≤ (p : Int) := by omega
      have e1_4 : ¬ (gI w 133 0).toInt - 1 < (p : Int) := by omega
      have e1_5 : (p : Int) ≤ (gI w 133 0).toInt - 1 := by omega
      have hx2 : ¬ 4 ≤ p := by omega
      obtain ⟨o, ho, ho182, honx, ho7, hok, hok0, -, -⟩ := h.2.1.apyr p (by omega) (by omega)
      have hb : ∃ q : Nat, q < 7 ∧ (sh w o).1 = q ∧ (gI w 135 p).toInt = (q : Int) := ⟨_, ho7, rfl, hok.symm⟩
      obtain ⟨q, hq7, hq1, hq2⟩ := hb
      have hq3 : (q = 0 ∧ (gI w 135 p).toInt = 0) ∨ (q = 1 ∧ (gI w 135 p).toInt = 1) ∨ (q = 2 ∧ (gI w 135 p).toInt = 2) ∨ (q = 3 ∧ (gI w 135 p).toInt = 3) ∨ (q = 4 ∧ (gI w 135 p).toInt = 4) ∨ (q = 5 ∧ (gI w 135 p).toInt = 5) ∨ (q = 6 ∧ (gI w 135 p).toInt = 6) := by omega
      have hz3 : a2.toInt = 0 ∨ a2.toInt = 1 ∨ a2.toInt = 2 ∨ a2.toInt = 3 ∨ a2.toInt = 4 ∨ a2.toInt = 5 ∨ a2.toInt = 6 := by omega
      rcases hz3 with hz | hz | hz | hz | hz | hz | hz <;> rcases hq3 with ⟨rfl, hq4⟩ | ⟨rfl, hq4⟩ | ⟨rfl, hq4⟩ | ⟨rfl, hq4⟩ | ⟨rfl, hq4⟩ | ⟨rfl, hq4⟩ | ⟨rfl, hq4⟩ <;>
      simp (disch := omega) only [f_X_taken, f_M_taken, f_X_taken_b0, f_M_taken_b0, f_X_payerAt, f_X_isOfKind, f_M_in, f_M_isPayer, f_M_taken_b51, f_X_payerAt_b0, f_X_isOfKind_b0, f_M_in_b0, f_M_isPayer_b0, f_M_taken_b61, sh_sL, gI_sL, gR_sL, sh_cI, gR_cI, gL_sI, gL_sR, sh_cL, gR_cL, gI_cL, ok_kl, ok_cd, ok_gd, ok_bd, ok_rr1, ok_nr0, ok_nr1, ok_ret, sh_sI, gR_sI, sh_sR, gR_ne, gR_nk, gR_eq, gI_sR, gI_eq, gI_ne, gI_nk, hs, hr, ti_lt, ti_le, ti_eq, ti_nat, ti_0, ti_1, ti_2, ti_3, ti_4, ti_5, ti_6, ti_7, ti_8, ti_9, ti_10, ti_60, ti_99, ti_199, ti_100, ti_19, ti_20, ti_127, ti_n1, true_and, and_true, false_and, and_false, not_false_eq_true, not_true_eq_false, false_implies, true_implies, Int.reduceEq, Int.reduceLT, Int.reduceLE, Int.reduceNeg, or_self, or_true, true_or, or_false, false_or, false_or, implies_true, Int.toNat_natCast, hc, hm, instE, instRo, instKe, instLi, instWi, instTo, Nat.reduceEqDiff, if_true, if_false, reduceIte, Nat.reduceLT, hz, hq1, hq4, e2_0, e2_1, e2_2, e2_3, e2_4, e2_5, e2_6, hp, e1_0, e1_1, e1_2, e1_3, e1_4, e1_5, ho, hx2, hok0]
      all_goals exact h
