set_option maxHeartbeats 8000000 in
theorem p_price {w : gW} {N : Nat} {a1 : Int32} (h : Sim w) : ok (f_X_price N 0 a1 w) (fun r w1 => ok (f_M_price N 133 a1 w1) (fun r' w2 => r = r' ∧ Sim w2)) := by
  have hs := lay_se h.1
  have hr := lay_re h.1
  have hc : gI w 9 7 = gI w 133 41 := h.2.1.aprc
  have hn : 0 ≤ (gI w 133 41).toInt ∧ (gI w 133 41).toInt ≤ 4 := h.2.1.aprcr
  by_cases en : a1.toInt = -1
  · have en0 := en
    simp (disch := omega) only [f_X_price, f_M_price, f_X_price_b0, f_M_price_b0, f_X_isPrice, f_M_isPrice, f_X_isPrice_b0, f_M_isPrice_b0, f_M_in, f_M_in_b0, sh_sL, gI_sL, gR_sL, sh_cI, gR_cI, gL_sI, gL_sR, sh_cL, gR_cL, gI_cL, ok_kl, ok_cd, ok_gd, ok_bd, ok_rr1, ok_nr0, ok_nr1, ok_ret, sh_sI, gR_sI, sh_sR, gR_ne, gR_nk, gR_eq, gI_sR, gI_eq, gI_ne, gI_nk, hs, hr, ti_lt, ti_le, ti_eq, ti_nat, ti_0, ti_1, ti_2, ti_3, ti_4, ti_5, ti_6, ti_7, ti_8, ti_9, ti_10, ti_60, ti_99, ti_199, ti_100, ti_19, ti_20, ti_127, ti_n1, true_and, and_true, false_and, and_false, not_false_eq_true, not_true_eq_false, false_implies, true_implies, Int.reduceEq, Int.reduceLT, Int.reduceLE, Int.reduceNeg, or_self, or_true, true_or, or_false, false_or, false_or, implies_true, Int.toNat_natCast, hc, en]
    exact h.u_price (Fr_sI (Fr_sI Fr.rf (by simp)) (by simp)) (eqA_oth (eqA_oth h.2.1.apri (by decide) (by decide)) (by decide) (by decide)) (rgA_oth (rgA_oth h.2.1.aprir (by decide)) (by decide)) (eqC_set (by decide)) (rgC_set (by decide))
  · have en0 := en
    rcases (show a1.toInt < 1 ∨ 199 < a1.toInt ∨ 1 ≤ a1.toInt ∧ a1.toInt ≤ 199 by omega) with z1 | z1 | z1
    · have z10 := z1
      have e1_0 : a1.toInt < 1 := by omega
      have e1_1 : ¬ 1 ≤ a1.toInt := by omega
      have e1_2 : a1.toInt < 200 := by omega
      have e1_3 : a1.toInt ≤ 199 := by omega
      have e1_4 : ¬ 199 < a1.toInt := by omega
      have e1_5 : ¬ 200 ≤ a1.toInt := by omega
      simp (disch := omega) only [f_X_price, f_M_price, f_X_price_b0, f_M_price_b0, f_X_isPrice, f_M_isPrice, f_X_isPrice_b0, f_M_isPrice_b0, f_M_in, f_M_in_b0, sh_sL, gI_sL, gR_sL, sh_cI, gR_cI, gL_sI, gL_sR, sh_cL, gR_cL, gI_cL, ok_kl, ok_cd, ok_gd, ok_bd, ok_rr1, ok_nr0, ok_nr1, ok_ret, sh_sI, gR_sI, sh_sR, gR_ne, gR_nk, gR_eq, gI_sR, gI_eq, gI_ne, gI_nk, hs, hr, ti_lt, ti_le, ti_eq, ti_nat, ti_0, ti_1, ti_2, ti_3, ti_4, ti_5, ti_6, ti_7, ti_8, ti_9, ti_10, ti_60, ti_99, ti_199, ti_100, ti_19, ti_20, ti_127, ti_n1, true_and, and_true, false_and, and_false, not_false_eq_true, not_true_eq_false, false_implies, true_implies, Int.reduceEq, Int.reduceLT, Int.reduceLE, Int.reduceNeg, or_self, or_true, true_or, or_false, false_or, false_or, implies_true, Int.toNat_natCast, hc, en, e1_0, e1_1, e1_2, e1_3, e1_4, e1_5]
      exact h
    · have z10 := z1
      have e1_0 : ¬ a1.toInt < 1 := by omega
      have e1_1 : 1 ≤ a1.toInt := by omega
      have e1_2 : ¬ a1.toInt < 200 := by omega
      have e1_3 : ¬ a1.toInt ≤ 199 := by omega
      have e1_4 : 199 < a1.toInt := by omega
      have e1_5 : 200 ≤ a1.toInt := by omega
      simp (disch := omega) only [f_X_price, f_M_price, f_X_price_b0, f_M_price_b0, f_X_isPrice, f_M_isPrice, f_X_isPrice_b0, f_M_isPrice_b0, f_M_in, f_M_in_b0, sh_sL, gI_sL, gR_sL, sh_cI, gR_cI, gL_sI, gL_sR, sh_cL, gR_cL, gI_cL, ok_kl, ok_cd, ok_gd, ok_bd, ok_rr1, ok_nr0, ok_nr1, ok_ret, sh_sI, gR_sI, sh_sR, gR_ne, gR_nk, gR_eq, gI_sR, gI_eq, gI_ne, gI_nk, hs, hr, ti_lt, ti_le, ti_eq, ti_nat, ti_0, ti_1, ti_2, ti_3, ti_4, ti_5, ti_6, ti_7, ti_8, ti_9, ti_10, ti_60, ti_99, ti_199, ti_100, ti_19, ti_20, ti_127, ti_n1, true_and, and_true, false_and, and_false, not_false_eq_true, not_true_eq_false, false_implies, true_implies, Int.reduceEq, Int.reduceLT, Int.reduceLE, Int.reduceNeg, or_self, or_true, true_or, or_false, false_or, false_or, implies_true, Int.toNat_natCast, hc, en, e1_0, e1_1, e1_2, e1_3, e1_4, e1_5]
      exact h
    · have z10 := z1
      have e1_0 : ¬ a1.toInt < 1 := by omega
      have e1_1 : 1 ≤ a1.toInt := by omega
      have e1_2 : a1.toInt < 200 := by omega
      have e1_3 : a1.toInt ≤ 199 := by omega
      have e1_4 : ¬ 199 < a1.toInt := by omega
      have e1_5 : ¬ 200 ≤ a1.toInt := by omega
      have e1_6 : ¬ 200 ≤ a1.toInt.toNat := by omega
      by_cases e4 : (gI w 133 41).toInt = 4
      · have e40 := e4
        simp (disch := omega) only [f_X_price, f_M_price, f_X_price_b0, f_M_price_b0, f_X_isPrice, f_M_isPrice, f_X_isPrice_b0, f_M_isPrice_b0, f_M_in, f_M_in_b0, sh_sL, gI_sL, gR_sL, sh_cI, gR_cI, gL_sI, gL_sR, sh_cL, gR_cL, gI_cL, ok_kl, ok_cd, ok_gd, ok_bd, ok_rr1, ok_nr0, ok_nr1, ok_ret, sh_sI, gR_sI, sh_sR, gR_ne, gR_nk, gR_eq, gI_sR, gI_eq, gI_ne, gI_nk, hs, hr, ti_lt, ti_le, ti_eq, ti_nat, ti_0, ti_1, ti_2, ti_3, ti_4, ti_5, ti_6, ti_7, ti_8, ti_9, ti_10, ti_60, ti_99, ti_199, ti_100, ti_19, ti_20, ti_127, ti_n1, true_and, and_true, false_and, and_false, not_false_eq_true, not_true_eq_false, false_implies, true_implies, Int.reduceEq, Int.reduceLT, Int.reduceLE, Int.reduceNeg, or_self, or_true, true_or, or_false, false_or, false_or, implies_true, Int.toNat_natCast, hc, en, e1_0, e1_1, e1_2, e1_3, e1_4, e1_5, e1_6, e4]
        exact h
      · have e40 := e4
        obtain ⟨n, hn1⟩ : ∃ n : Nat, (gI w 133 41).toInt = (n : Int) := ⟨(gI w 133 41).toInt.toNat, by omega⟩
        have hx0 : ¬ (n : Int) < 0 := by omega
        have hx1 : ¬ 4 ≤ n := by omega
        have hx2 : (n : Int) < 4 := by omega
        have hx3 : ¬ (n : Int) = 4 := by omega
        simp (disch := omega) only [f_X_price, f_M_price, f_X_price_b0, f_M_price_b0, f_X_isPrice, f_M_isPrice, f_X_isPrice_b0, f_M_isPrice_b0, f_M_in, f_M_in_b0, sh_sL, gI_sL, gR_sL, sh_cI, gR_cI, gL_sI, gL_sR, sh_cL, gR_cL, gI_cL, ok_kl, ok_cd, ok_gd, ok_bd, ok_rr1, ok_nr0, ok_nr1, ok_ret, sh_sI, gR_sI, sh_sR, gR_ne, gR_nk, gR_eq, gI_sR, gI_eq, gI_ne, gI_nk, hs, hr, ti_lt, ti_le, ti_eq, ti_nat, ti_0, ti_1, ti_2, ti_3, ti_4, ti_5, ti_6, ti_7, ti_8, ti_9, ti_10, ti_60, ti_99, ti_199, ti_100, ti_19, ti_20, ti_127, ti_n1, true_and, and_true, false_and, and_false, not_false_eq_true, not_true_eq_false, false_implies, true_implies, Int.reduceEq, Int.reduceLT, Int.reduceLE, Int.reduceNeg, or_self, or_true, true_or, or_false, false_or, false_or, implies_true, Int.toNat_natCast, hc, hn1, hx0, hx1, hx2, hx3, en, e1_0, e1_1, e1_2, e1_3, e1_4, e1_5, e1_6, e4]
        refine h.u_price (Fr_sI (Fr_sI (Fr_sI (Fr_sI Fr.rf (by simp)) (by simp)) (by simp)) (by simp)) ?_ ?_ ?_ ?_
        · exact eqA_oth (eqA_set2 h.2.1.apri (by decide) (by decide) (by decide)) (by decide) (by decide)
        · exact rgA_oth (rgA_set (rgA_oth (rgA_oth h.2.1.aprir (by decide)) (by decide)) (by omega)) (by decide)
        · unfold S_aprc eqC; simp [gI_sI]
        · exact rgC_set (by rw [ti_add] <;> rw [ti_1] <;> omega)
