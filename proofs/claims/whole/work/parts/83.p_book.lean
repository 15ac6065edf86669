set_option maxHeartbeats 8000000 in
theorem p_book {w : gW} {N : Nat} {a1 a2 : Int32} (h : Sim w) : ok (f_X_book N 0 a1 a2 w) (fun r w1 => ok (f_M_book N 133 a1 a2 w1) (fun r' w2 => r = r' ∧ Sim w2)) := by
  have hs := lay_se h.1
  have hr := lay_re h.1
  have hc : gI w 9 1 = gI w 133 0 := h.2.1.acnt
  have hn : 0 ≤ (gI w 133 0).toInt ∧ (gI w 133 0).toInt ≤ 4 := h.2.1.acntr
  have hm : (gI w 133 0 - 1).toInt = (gI w 133 0).toInt - 1 := by rw [ti_sub (by rw [ti_1]; omega), ti_1]
  have hcb : gI w 9 13 = gI w 133 46 := h.2.1.abok
  have hnb : 0 ≤ (gI w 133 46).toInt ∧ (gI w 133 46).toInt ≤ 8 := h.2.1.abokr
  by_cases en : a1.toInt = -1
  · have en0 := en
    simp (disch := omega) only [f_X_book, f_M_book, f_X_book_b0, f_M_book_b0, f_X_payerAt, f_X_isPrice, f_M_isPayer, f_M_isPrice, f_X_payerAt_b0, f_X_isPrice_b0, f_M_isPayer_b0, f_M_isPrice_b0, f_M_in, f_M_in_b0, sh_sL, gI_sL, gR_sL, sh_cI, gR_cI, gL_sI, gL_sR, sh_cL, gR_cL, gI_cL, ok_kl, ok_cd, ok_gd, ok_bd, ok_rr1, ok_nr0, ok_nr1, ok_ret, sh_sI, gR_sI, sh_sR, gR_ne, gR_nk, gR_eq, gI_sR, gI_eq, gI_ne, gI_nk, hs, hr, ti_lt, ti_le, ti_eq, ti_nat, ti_0, ti_1, ti_2, ti_3, ti_4, ti_5, ti_6, ti_7, ti_8, ti_9, ti_10, ti_60, ti_99, ti_199, ti_100, ti_19, ti_20, ti_127, ti_n1, true_and, and_true, false_and, and_false, not_false_eq_true, not_true_eq_false, false_implies, true_implies, Int.reduceEq, Int.reduceLT, Int.reduceLE, Int.reduceNeg, or_self, or_true, true_or, or_false, false_or, false_or, implies_true, Int.toNat_natCast, hc, hm, hcb, en]
    refine h.u_book (Fr_sI (Fr_sI Fr.rf (by simp)) (by simp)) ?_ ?_ ?_ ?_ ?_ ?_ ?_
    · exact eqA_oth (eqA_oth h.2.1.abw (by decide) (by decide)) (by decide) (by decide)
    · exact rgA_oth (rgA_oth h.2.1.abwr (by decide)) (by decide)
    · intro k hk hl
      rw [gI_eq] at hl
      exact absurd hl (by rw [ti_0]; omega)
    · exact eqA_oth (eqA_oth h.2.1.abp (by decide) (by decide)) (by decide) (by decide)
    · exact rgA_oth (rgA_oth h.2.1.abpr (by decide)) (by decide)
    · exact eqC_set (by decide)
    · exact rgC_set (by decide)
  · have en0 := en
    rcases (show a1.toInt < 0 ∨ (gI w 133 0).toInt ≤ a1.toInt ∨ 0 ≤ a1.toInt ∧ a1.toInt < (gI w 133 0).toInt by omega) with z1 | z1 | z1
    · have z10 := z1
      have e1_0 : a1.toInt < 0 := by omega
      have e1_1 : ¬ 0 ≤ a1.toInt := by omega
      have e1_2 : a1.toInt < (gI w 133 0).toInt := by omega
      have e1_3 : ¬ (gI w 133 0).toInt ≤ a1.toInt := by omega
      have e1_4 : ¬ (gI w 133 0).toInt - 1 < a1.toInt := by omega
      have e1_5 : a1.toInt ≤ (gI w 133 0).toInt - 1 := by omega
      simp (disch := omega) only [f_X_book, f_M_book, f_X_book_b0, f_M_book_b0, f_X_payerAt, f_X_isPrice, f_M_isPayer, f_M_isPrice, f_X_payerAt_b0, f_X_isPrice_b0, f_M_isPayer_b0, f_M_isPrice_b0, f_M_in, f_M_in_b0, sh_sL, gI_sL, gR_sL, sh_cI, gR_cI, gL_sI, gL_sR, sh_cL, gR_cL, gI_cL, ok_kl, ok_cd, ok_gd, ok_bd, ok_rr1, ok_nr0, ok_nr1, ok_ret, sh_sI, gR_sI, sh_sR, gR_ne, gR_nk, gR_eq, gI_sR, gI_eq, gI_ne, gI_nk, hs, hr, ti_lt, ti_le, ti_eq, ti_nat, ti_0, ti_1, ti_2, ti_3, ti_4, ti_5, ti_6, ti_7, ti_8, ti_9, ti_10, ti_60, ti_99, ti_199, ti_100, ti_19, ti_20, ti_127, ti_n1, true_and, and_true, false_and, and_false, not_false_eq_true, not_true_eq_false, false_implies, true_implies, Int.reduceEq, Int.reduceLT, Int.reduceLE, Int.reduceNeg, or_self, or_true, true_or, or_false, false_or, false_or, implies_true, Int.toNat_natCast, hc, hm, hcb, en, e1_0, e1_1, e1_2, e1_3, e1_4, e1_5]
      exact h
    · have z10 := z1
      have e1_0 : ¬ a1.toInt < 0 := by omega
      have e1_1 : 0 ≤ a1.toInt := by omega
      have e1_2 : ¬ a1.toInt < (gI w 133 0).toInt := by omega
      have e1_3 : (gI w 133 0).toInt ≤ a1.toInt := by omega
      have e1_4 : (gI w 133 0).toInt - 1 < a1.toInt := by omega
      have e1_5 : ¬ a1.toInt ≤ (gI w 133 0).toInt - 1 := by omega
      simp (disch := omega) only [f_X_book, f_M_book, f_X_book_b0, f_M_book_b0, f_X_payerAt, f_X_isPrice, f_M_isPayer, f_M_isPrice, f_X_payerAt_b0, f_X_isPrice_b0, f_M_isPayer_b0, f_M_isPrice_b0, f_M_in, f_M_in_b0, sh_sL, gI_sL, gR_sL, sh_cI, gR_cI, gL_sI, gL_sR, sh_cL, gR_cL, gI_cL, ok_kl, ok_cd, ok_gd, ok_bd, ok_rr1, ok_nr0, ok_nr1, ok_ret, sh_sI, gR_sI, sh_sR, gR_ne, gR_nk, gR_eq, gI_sR, gI_eq, gI_ne, gI_nk, hs, hr, ti_lt, ti_le, ti_eq, ti_nat, ti_0, ti_1, ti_2, ti_3, ti_4, ti_5, ti_6, ti_7, ti_8, ti_9, ti_10, ti_60, ti_99, ti_199, ti_100, ti_19, ti_20, ti_127, ti_n1, true_and, and_true, false_and, and_false, not_false_eq_true, not_true_eq_false, false_implies, true_implies, Int.reduceEq, Int.reduceLT, Int.reduceLE, Int.reduceNeg, or_self, or_true, true_or, or_false, false_or, false_or, implies_true, Int.toNat_natCast, hc, hm, hcb, en, e1_0, e1_1, e1_2, e1_3, e1_4, e1_5]
      exact h
    · obtain ⟨p, hp⟩ : ∃ p : Nat, a1.toInt = (p : Int) := ⟨a1.toInt.toNat, by omega⟩
      have e1_0 : ¬ (p : Int) < 0 := by omega
      have e1_1 : 0 ≤ (p : Int) := by omega
      have e1_2 : (p : Int) < (gI w 133 0).toInt := by omega
      have e1_3 : ¬ (gI w 133 0).toInt ≤ (p : Int) := by omega
      have e1_4 : ¬ (gI w 133 0).toInt - 1 < (p : Int) := by omega
      have e1_5 : (p : Int) ≤ (gI w 133 0).toInt - 1 := by omega
      have hx2 : ¬ 4 ≤ p := by omega
      have hx9 : ¬ (p : Int) = -1 := by omega
      obtain ⟨o, ho, -⟩ := h.2.1.apyr p (by omega) (by omega)
      rcases (show a2.toInt < 1 ∨ 199 < a2.toInt ∨ 1 ≤ a2.toInt ∧ a2.toInt ≤ 199 by omega) with z2 | z2 | z2
      · have z20 := z2
        have e2_0 : a2.toInt < 1 := by omega
        have e2_1 : ¬ 1 ≤ a2.toInt := by omega
        have e2_2 : a2.toInt < 200 := by omega
        have e2_3 : a2.toInt ≤ 199 := by omega
        have e2_4 : ¬ 199 < a2.toInt := by omega
        have e2_5 : ¬ 200 ≤ a2.toInt := by omega
        simp (disch := omega) only [f_X_book, f_M_book, f_X_book_b0, f_M_book_b0, f_X_payerAt, f_X_isPrice, f_M_isPayer, f_M_isPrice, f_X_payerAt_b0, f_X_isPrice_b0, f_M_isPayer_b0, f_M_isPrice_b0, f_M_in, f_M_in_b0, sh_sL, gI_sL, gR_sL, sh_cI, gR_cI, gL_sI, gL_sR, sh_cL, gR_cL, gI_cL, ok_kl, ok_cd, ok_gd, ok_bd, ok_rr1, ok_nr0, ok_nr1, ok_ret, sh_sI, gR_sI, sh_sR, gR_ne, gR_nk, gR_eq, gI_sR, gI_eq, gI_ne, gI_nk, hs, hr, ti_lt, ti_le, ti_eq, ti_nat, ti_0, ti_1, ti_2, ti_3, ti_4, ti_5, ti_6, ti_7, ti_8, ti_9, ti_10, ti_60, ti_99, ti_199, ti_100, ti_19, ti_20, ti_127, ti_n1, true_and, and_true, false_and, and_false, not_false_eq_true, not_true_eq_false, false_implies, true_implies, Int.reduceEq, Int.reduceLT, Int.reduceLE, Int.reduceNeg, or_self, or_true, true_or, or_false, false_or, false_or, implies_true, Int.toNat_natCast, hc, hm, hcb, en, hp, e1_0, e1_1, e1_2, e1_3, e1_4, e1_5, ho, hx2, hx9, e2_0, e2_1, e2_2, e2_3, e2_4, e2_5]
        exact h
      · have z20 := z2
        have e2_0 : ¬ a2.toInt < 1 := by omega
        have e2_1 : 1 ≤ a2.toInt := by omega
        have e2_2 : ¬ a2.toInt < 200 := by omega
        have e2_3 : ¬ a2.toInt ≤ 199 := by omega
        have e2_4 : 199 < a2.toInt := by omega
        have e2_5 : 200 ≤ a2.toInt := by omega
        simp (disch := omega) only [f_X_book, f_M_book, f_X_book_b0, f_M_book_b0, f_X_payerAt, f_X_isPrice, f_M_isPayer, f_M_isPrice, f_X_payerAt_b0, f_X_isPrice_b0, f_M_isPayer_b0, f_M_isPrice_b0, f_M_in, f_M_in_b0, sh_sL, gI_sL, gR_sL, sh_cI, gR_cI, gL_sI, gL_sR, sh_cL, gR_cL, gI_cL, ok_kl, ok_cd, ok_gd, ok_bd, ok_rr1, ok_nr0, ok_nr1, ok_ret, sh_sI, gR_sI, sh_sR, gR_ne, gR_nk, gR_eq, gI_sR, gI_eq, gI_ne, gI_nk, hs, hr, ti_lt, ti_le, ti_eq, ti_nat, ti_0, ti_1, ti_2, ti_3, ti_4, ti_5, ti_6, ti_7, ti_8, ti_9, ti_10, ti_60, ti_99, ti_199, ti_100, ti_19, ti_20, ti_127, ti_n1, true_and, and_true, false_and, and_false, not_false_eq_true, not_true_eq_false, false_implies, true_implies, Int.reduceEq, Int.reduceLT, Int.reduceLE, Int.reduceNeg, or_self, or_true, true_or, or_false, false_or, false_or, implies_true, Int.toNat_natCast, hc, hm, hcb, en, hp, e1_0, e1_1, e1_2, e1_3, e1_4, e1_5, ho, hx2, hx9, e2_0, e2_1, e2_2, e2_3, e2_4, e2_5]
        exact h
      · have z20 := z2
        have e2_0 : ¬ a2.toInt < 1 := by omega
        have e2_1 : 1 ≤ a2.toInt := by omega
        have e2_2 : a2.toInt < 200 := by omega
        have e2_3 : a2.toInt ≤ 199 := by omega
        have e2_4 : ¬ 199 < a2.toInt := by omega
        have e2_5 : ¬ 200 ≤ a2.toInt := by omega
        have e2_6 : ¬ 200 ≤ a2.toInt.toNat := by omega
        by_cases e4 : (gI w 133 46).toInt = 8
        · have e40 := e4
          simp (disch := omega) only [f_X_book, f_M_book, f_X_book_b0, f_M_book_b0, f_X_payerAt, f_X_isPrice, f_M_isPayer, f_M_isPrice, f_X_payerAt_b0, f_X_isPrice_b0, f_M_isPayer_b0, f_M_isPrice_b0, f_M_in, f_M_in_b0, sh_sL, gI_sL, gR_sL, sh_cI, gR_cI, gL_sI, gL_sR, sh_cL, gR_cL, gI_cL, ok_kl, ok_cd, ok_gd, ok_bd, ok_rr1, ok_nr0, ok_nr1, ok_ret, sh_sI, gR_sI, sh_sR, gR_ne, gR_nk, gR_eq, gI_sR, gI_eq, gI_ne, gI_nk, hs, hr, ti_lt, ti_le, ti_eq, ti_nat, ti_0, ti_1, ti_2, ti_3, ti_4, ti_5, ti_6, ti_7, ti_8, ti_9, ti_10, ti_60, ti_99, ti_199, ti_100, ti_19, ti_20, ti_127, ti_n1, true_and, and_true, false_and, and_false, not_false_eq_true, not_true_eq_false, false_implies, true_implies, Int.reduceEq, Int.reduceLT, Int.reduceLE, Int.reduceNeg, or_self, or_true, true_or, or_false, false_or, false_or, implies_true, Int.toNat_natCast, hc, hm, hcb, en, hp, e1_0, e1_1, e1_2, e1_3, e1_4, e1_5, ho, hx2, hx9, e2_0, e2_1, e2_2, e2_3, e2_4, e2_5, e2_6, e4]
          exact h
        · have e40 := e4
          obtain ⟨n, hn1⟩ : ∃ n : Nat, (gI w 133 46).toInt = (n : Int) := ⟨(gI w 133 46).toInt.toNat, by omega⟩
          have hy0 : ¬ (n : Int) < 0 := by omega
          have hy1 : ¬ 8 ≤ n := by omega
          have hy2 : (n : Int) < 8 := by omega
          have hy3 : ¬ (n : Int) = 8 := by omega
          simp (disch := omega) only [f_X_book, f_M_book, f_X_book_b0, f_M_book_b0, f_X_payerAt, f_X_isPrice, f_M_isPayer, f_M_isPrice, f_X_payerAt_b0, f_X_isPrice_b0, f_M_isPayer_b0, f_M_isPrice_b0, f_M_in, f_M_in_b0, sh_sL, gI_sL, gR_sL, sh_cI, gR_cI, gL_sI, gL_sR, sh_cL, gR_cL, gI_cL, ok_kl, ok_cd, ok_gd, ok_bd, ok_rr1, ok_nr0, ok_nr1, ok_ret, sh_sI, gR_sI, sh_sR, gR_ne, gR_nk, gR_eq, gI_sR, gI_eq, gI_ne, gI_nk, hs, hr, ti_lt, ti_le, ti_eq, ti_nat, ti_0, ti_1, ti_2, ti_3, ti_4, ti_5, ti_6, ti_7, ti_8, ti_9, ti_10, ti_60, ti_99, ti_199, ti_100, ti_19, ti_20, ti_127, ti_n1, true_and, and_true, false_and, and_false, not_false_eq_true, not_true_eq_false, false_implies, true_implies, Int.reduceEq, Int.reduceLT, Int.reduceLE, Int.reduceNeg, or_self, or_true, true_or, or_false, false_or, false_or, implies_true, Int.toNat_natCast, hc, hm, hcb, hn1, hy0, hy1, hy2, hy3, en, hp, e1_0, e1_1, e1_2, e1_3, e1_4, e1_5, ho, hx2, hx9, e2_0, e2_1, e2_2, e2_3, e2_4, e2_5, e2_6, e4]
          refine h.u_book (Fr_sI (Fr_sI (Fr_sI (Fr_sI (Fr_sI (Fr_sI Fr.rf (by simp)) (by simp)) (by simp)) (by simp)) (by simp)) (by simp)) ?_ ?_ ?_ ?_ ?_ ?_ ?_
          · intro k hk
            have := h.2.1.abw k hk
            simp only [gI_sI]
            by_cases e : k = n
            · simp [e]
            · simp [e, this]
          · exact rgA_oth (rgA_oth (rgA_set (rgA_oth (rgA_oth (rgA_oth h.2.1.abwr (by decide)) (by decide)) (by decide)) (by omega)) (by decide)) (by decide)
          · intro k hk hl
            rw [gI_eq, ti_add (by rw [ti_1]; omega), ti_1, hn1] at hl
            have := h.2.1.abwl k hk
            simp only [gI_sI]
            by_cases e : k = n
            · simp [e]; omega
            · simp [e]; exact this (by omega)
          · intro k hk
            have := h.2.1.abp k hk
            simp only [gI_sI]
            by_cases e : k = n
            · simp [e]
            · simp [e, this]
          · exact rgA_oth (rgA_set (rgA_oth (rgA_oth (rgA_oth (rgA_oth h.2.1.abpr (by decide)) (by decide)) (by decide)) (by decide)) (by omega)) (by decide)
          · unfold S_abok eqC; simp [gI_sI]
          · exact rgC_set (by rw [ti_add] <;> rw [ti_1] <;> omega)
