set_option maxHeartbeats 8000000 in
theorem p_trace {w : gW} {N : Nat} {a1 : Int32} (h : Sim w) : ok (f_X_trace N 0 a1 w) (fun r w1 => ok (f_M_trace N 133 a1 w1) (fun r' w2 => r = r' ∧ Sim w2)) := by
  have hs := lay_se h.1
  have hr := lay_re h.1
  have hc : gI w 74 1 = gI w 133 66 := h.2.1.ran
  have hn : 0 ≤ (gI w 133 66).toInt ∧ (gI w 133 66).toInt ≤ 1000 := h.2.1.ranr
  rcases (show a1.toInt < 0 ∨ 19 < a1.toInt ∨ 0 ≤ a1.toInt ∧ a1.toInt ≤ 19 by omega) with z1 | z1 | z1
  · have z10 := z1
    have e1_0 : a1.toInt < 0 := by omega
    have e1_1 : ¬ 0 ≤ a1.toInt := by omega
    have e1_2 : a1.toInt < 20 := by omega
    have e1_3 : a1.toInt ≤ 19 := by omega
    have e1_4 : ¬ 19 < a1.toInt := by omega
    have e1_5 : ¬ 20 ≤ a1.toInt := by omega
    simp (disch := omega) only [f_X_trace, f_M_trace, f_X_trace_b0, f_M_trace_b0, f_M_in, f_M_in_b0, sh_sL, gI_sL, gR_sL, sh_cI, gR_cI, gL_sI, gL_sR, sh_cL, gR_cL, gI_cL, ok_kl, ok_cd, ok_gd, ok_bd, ok_rr1, ok_nr0, ok_nr1, ok_ret, sh_sI, gR_sI, sh_sR, gR_ne, gR_nk, gR_eq, gI_sR, gI_eq, gI_ne, gI_nk, hs, hr, ti_lt, ti_le, ti_eq, ti_nat, ti_0, ti_1, ti_2, ti_3, ti_4, ti_5, ti_6, ti_7, ti_8, ti_9, ti_10, ti_60, ti_99, ti_199, ti_100, ti_19, ti_20, ti_127, ti_n1, true_and, and_true, false_and, and_false, not_false_eq_true, not_true_eq_false, false_implies, true_implies, Int.reduceEq, Int.reduceLT, Int.reduceLE, Int.reduceNeg, or_self, or_true, true_or, or_false, false_or, false_or, implies_true, Int.toNat_natCast, hc, e1_0, e1_1, e1_2, e1_3, e1_4, e1_5]
    first | exact h | exact ⟨fun _ => h, fun _ => h⟩
  · have z10 := z1
    have e1_0 : ¬ a1.toInt < 0 := by omega
    have e1_1 : 0 ≤ a1.toInt := by omega
    have e1_2 : ¬ a1.toInt < 20 := by omega
    have e1_3 : ¬ a1.toInt ≤ 19 := by omega
    have e1_4 : 19 < a1.toInt := by omega
    have e1_5 : 20 ≤ a1.toInt := by omega
    simp (disch := omega) only [f_X_trace, f_M_trace, f_X_trace_b0, f_M_trace_b0, f_M_in, f_M_in_b0, sh_sL, gI_sL, gR_sL, sh_cI, gR_cI, gL_sI, gL_sR, sh_cL, gR_cL, gI_cL, ok_kl, ok_cd, ok_gd, ok_bd, ok_rr1, ok_nr0, ok_nr1, ok_ret, sh_sI, gR_sI, sh_sR, gR_ne, gR_nk, gR_eq, gI_sR, gI_eq, gI_ne, gI_nk, hs, hr, ti_lt, ti_le, ti_eq, ti_nat, ti_0, ti_1, ti_2, ti_3, ti_4, ti_5, ti_6, ti_7, ti_8, ti_9, ti_10, ti_60, ti_99, ti_199, ti_100, ti_19, ti_20, ti_127, ti_n1, true_and, and_true, false_and, and_false, not_false_eq_true, not_true_eq_false, false_implies, true_implies, Int.reduceEq, Int.reduceLT, Int.reduceLE, Int.reduceNeg, or_self, or_true, true_or, or_false, false_or, false_or, implies_true, Int.toNat_natCast, hc, e1_0, e1_1, e1_2, e1_3, e1_4, e1_5]
    first | exact h | exact ⟨fun _ => h, fun _ => h⟩
  · obtain ⟨k, hk⟩ : ∃ k : Nat, a1.toInt = (k : Int) := ⟨a1.toInt.toNat, by omega⟩
    have e1_0 : ¬ (k : Int) < 0 := by omega
    have e1_1 : 0 ≤ (k : Int) := by omega
    have e1_2 : (k : Int) < 20 := by omega
    have e1_3 : (k : Int) ≤ 19 := by omega
    have e1_4 : ¬ 19 < (k : Int) := by omega
    have e1_5 : ¬ 20 ≤ (k : Int) := by omega
    have e1_6 : ¬ 20 ≤ (k : Int).toNat := by omega
    have e1_n : ¬ 20 ≤ k := by omega
    by_cases er : (gI w 133 66).toInt ≤ (k : Int)
    · have er0 := er
      simp (disch := omega) only [f_X_trace, f_M_trace, f_X_trace_b0, f_M_trace_b0, f_M_in, f_M_in_b0, sh_sL, gI_sL, gR_sL, sh_cI, gR_cI, gL_sI, gL_sR, sh_cL, gR_cL, gI_cL, ok_kl, ok_cd, ok_gd, ok_bd, ok_rr1, ok_nr0, ok_nr1, ok_ret, sh_sI, gR_sI, sh_sR, gR_ne, gR_nk, gR_eq, gI_sR, gI_eq, gI_ne, gI_nk, hs, hr, ti_lt, ti_le, ti_eq, ti_nat, ti_0, ti_1, ti_2, ti_3, ti_4, ti_5, ti_6, ti_7, ti_8, ti_9, ti_10, ti_60, ti_99, ti_199, ti_100, ti_19, ti_20, ti_127, ti_n1, true_and, and_true, false_and, and_false, not_false_eq_true, not_true_eq_false, false_implies, true_implies, Int.reduceEq, Int.reduceLT, Int.reduceLE, Int.reduceNeg, or_self, or_true, true_or, or_false, false_or, false_or, implies_true, Int.toNat_natCast, hc, hk, e1_0, e1_1, e1_2, e1_3, e1_4, e1_5, e1_6, e1_n, er]
      exact h
    · have er0 := er
      simp (disch := omega) only [f_X_trace, f_M_trace, f_X_trace_b0, f_M_trace_b0, f_M_in, f_M_in_b0, sh_sL, gI_sL, gR_sL, sh_cI, gR_cI, gL_sI, gL_sR, sh_cL, gR_cL, gI_cL, ok_kl, ok_cd, ok_gd, ok_bd, ok_rr1, ok_nr0, ok_nr1, ok_ret, sh_sI, gR_sI, sh_sR, gR_ne, gR_nk, gR_eq, gI_sR, gI_eq, gI_ne, gI_nk, hs, hr, ti_lt, ti_le, ti_eq, ti_nat, ti_0, ti_1, ti_2, ti_3, ti_4, ti_5, ti_6, ti_7, ti_8, ti_9, ti_10, ti_60, ti_99, ti_199, ti_100, ti_19, ti_20, ti_127, ti_n1, true_and, and_true, false_and, and_false, not_false_eq_true, not_true_eq_false, false_implies, true_implies, Int.reduceEq, Int.reduceLT, Int.reduceLE, Int.reduceNeg, or_self, or_true, true_or, or_false, false_or, false_or, implies_true, Int.toNat_natCast, hc, hk, e1_0, e1_1, e1_2, e1_3, e1_4, e1_5, e1_6, e1_n, er]
      exact ⟨congrArg Int32.toInt (h.2.1.bod k (by omega)), h⟩
