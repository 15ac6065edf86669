set_option maxHeartbeats 8000000 in
theorem p_item {w : gW} {N : Nat} {a1 a2 : Int32} {a3 : Int64} (h : Sim w) : ok (f_X_item N 0 a1 a2 a3 w) (fun r w1 => ok (f_M_item N 133 a1 a2 a3 w1) (fun r' w2 => r = r' ∧ Sim w2)) := by
  have hs := lay_se h.1
  have hr := lay_re h.1
  rcases (show a1.toInt < 0 ∨ 5 < a1.toInt ∨ 0 ≤ a1.toInt ∧ a1.toInt ≤ 5 by omega) with z1 | z1 | z1
  · have z10 := z1
    have e1_0 : a1.toInt < 0 := by omega
    have e1_1 : ¬ 0 ≤ a1.toInt := by omega
    have e1_2 : a1.toInt < 6 := by omega
    have e1_3 : a1.toInt ≤ 5 := by omega
    have e1_4 : ¬ 5 < a1.toInt := by omega
    have e1_5 : ¬ 6 ≤ a1.toInt := by omega
    simp (disch := omega) only [f_X_item, f_M_item, f_X_item_b0, f_M_item_b0, f_X_isTape, f_X_narrowed, f_M_isTape, f_M_in, f_M_narrow, f_X_isTape_b0, f_X_narrowed_b0, f_M_isTape_b0, f_M_in_b0, f_M_narrow_b0, sh_sL, gI_sL, gR_sL, sh_cI, gR_cI, gL_sI, gL_sR, sh_cL, gR_cL, gI_cL, ok_kl, ok_cd, ok_gd, ok_bd, ok_rr1, ok_nr0, ok_nr1, ok_ret, sh_sI, gR_sI, sh_sR, gR_ne, gR_nk, gR_eq, gI_sR, gI_eq, gI_ne, gI_nk, hs, hr, ti_lt, ti_le, ti_eq, ti_nat, ti_0, ti_1, ti_2, ti_3, ti_4, ti_5, ti_6, ti_7, ti_8, ti_9, ti_10, ti_60, ti_99, ti_199, ti_100, ti_19, ti_20, ti_127, ti_n1, true_and, and_true, false_and, and_false, not_false_eq_true, not_true_eq_false, false_implies, true_implies, Int.reduceEq, Int.reduceLT, Int.reduceLE, Int.reduceNeg, or_self, or_true, true_or, or_false, false_or, false_or, implies_true, Int.toNat_natCast, e1_0, e1_1, e1_2, e1_3, e1_4, e1_5]
    exact h
  · have z10 := z1
    have e1_0 : ¬ a1.toInt < 0 := by omega
    have e1_1 : 0 ≤ a1.toInt := by omega
    have e1_2 : ¬ a1.toInt < 6 := by omega
    have e1_3 : ¬ a1.toInt ≤ 5 := by omega
    have e1_4 : 5 < a1.toInt := by omega
    have e1_5 : 6 ≤ a1.toInt := by omega
    simp (disch := omega) only [f_X_item, f_M_item, f_X_item_b0, f_M_item_b0, f_X_isTape, f_X_narrowed, f_M_isTape, f_M_in, f_M_narrow, f_X_isTape_b0, f_X_narrowed_b0, f_M_isTape_b0, f_M_in_b0, f_M_narrow_b0, sh_sL, gI_sL, gR_sL, sh_cI, gR_cI, gL_sI, gL_sR, sh_cL, gR_cL, gI_cL, ok_kl, ok_cd, ok_gd, ok_bd, ok_rr1, ok_nr0, ok_nr1, ok_ret, sh_sI, gR_sI, sh_sR, gR_ne, gR_nk, gR_eq, gI_sR, gI_eq, gI_ne, gI_nk, hs, hr, ti_lt, ti_le, ti_eq, ti_nat, ti_0, ti_1, ti_2, ti_3, ti_4, ti_5, ti_6, ti_7, ti_8, ti_9, ti_10, ti_60, ti_99, ti_199, ti_100, ti_19, ti_20, ti_127, ti_n1, true_and, and_true, false_and, and_false, not_false_eq_true, not_true_eq_false, false_implies, true_implies, Int.reduceEq, Int.reduceLT, Int.reduceLE, Int.reduceNeg, or_self, or_true, true_or, or_false, false_or, false_or, implies_true, Int.toNat_natCast, e1_0, e1_1, e1_2, e1_3, e1_4, e1_5]
    exact h
  · obtain ⟨t, ht⟩ : ∃ t : Nat, a1.toInt = (t : Int) := ⟨a1.toInt.toNat, by omega⟩
    have e1_0 : ¬ (t : Int) < 0 := by omega
    have e1_1 : 0 ≤ (t : Int) := by omega
    have e1_2 : (t : Int) < 6 := by omega
    have e1_3 : (t : Int) ≤ 5 := by omega
    have e1_4 : ¬ 5 < (t : Int) := by omega
    have e1_5 : ¬ 6 ≤ (t : Int) := by omega
    have e1_6 : ¬ 6 ≤ (t : Int).toNat := by omega
    have e1_n : ¬ 6 ≤ t := by omega
    have hlen : gI w 77 t = gI w 179 t := h.2.1.len t (by omega)
    have hsrt : gI w 76 t = gI w 178 t := h.2.1.srt t (by omega)
    have hlr : 0 ≤ (gI w 179 t).toInt ∧ (gI w 179 t).toInt ≤ 60 := h.2.1.lenr t (by omega)
    have hsr : -1 ≤ (gI w 178 t).toInt ∧ (gI w 178 t).toInt ≤ 4 := h.2.1.srtr t (by omega)
    have hnz := h.2.1.lnz t (by omega)
    have hlm : (gI w 179 t - 1).toInt = (gI w 179 t).toInt - 1 := by rw [ti_sub (by rw [ti_1]; omega), ti_1]
    have hq := lay_r78 h.1 (t := t) (by omega)
    have hq2 := lay_s79 h.1 (t := t) (by omega)
    by_cases es : (gI w 178 t).toInt = -1
    · have es0 := es
      simp (disch := omega) only [f_X_item, f_M_item, f_X_item_b0, f_M_item_b0, f_X_isTape, f_X_narrowed, f_M_isTape, f_M_in, f_M_narrow, f_X_isTape_b0, f_X_narrowed_b0, f_M_isTape_b0, f_M_in_b0, f_M_narrow_b0, sh_sL, gI_sL, gR_sL, sh_cI, gR_cI, gL_sI, gL_sR, sh_cL, gR_cL, gI_cL, ok_kl, ok_cd, ok_gd, ok_bd, ok_rr1, ok_nr0, ok_nr1, ok_ret, sh_sI, gR_sI, sh_sR, gR_ne, gR_nk, gR_eq, gI_sR, gI_eq, gI_ne, gI_nk, hs, hr, ti_lt, ti_le, ti_eq, ti_nat, ti_0, ti_1, ti_2, ti_3, ti_4, ti_5, ti_6, ti_7, ti_8, ti_9, ti_10, ti_60, ti_99, ti_199, ti_100, ti_19, ti_20, ti_127, ti_n1, true_and, and_true, false_and, and_false, not_false_eq_true, not_true_eq_false, false_implies, true_implies, Int.reduceEq, Int.reduceLT, Int.reduceLE, Int.reduceNeg, or_self, or_true, true_or, or_false, false_or, false_or, implies_true, Int.toNat_natCast, ht, e1_0, e1_1, e1_2, e1_3, e1_4, e1_5, e1_6, e1_n, hlen, hsrt, hlm, hq, hq2, es]
      exact h
    · have es0 := es
      have hs0 : 0 ≤ (gI w 178 t).toInt := by omega
      rcases (show a2.toInt < 0 ∨ (gI w 179 t).toInt ≤ a2.toInt ∨ 0 ≤ a2.toInt ∧ a2.toInt < (gI w 179 t).toInt by omega) with z2 | z2 | z2
      · have z20 := z2
        have e2_0 : a2.toInt < 0 := by omega
        have e2_1 : ¬ 0 ≤ a2.toInt := by omega
        have e2_2 : a2.toInt < (gI w 179 t).toInt := by omega
        have e2_3 : ¬ (gI w 179 t).toInt ≤ a2.toInt := by omega
        have e2_4 : ¬ (gI w 179 t).toInt - 1 < a2.toInt := by omega
        have e2_5 : a2.toInt ≤ (gI w 179 t).toInt - 1 := by omega
        simp (disch := omega) only [f_X_item, f_M_item, f_X_item_b0, f_M_item_b0, f_X_isTape, f_X_narrowed, f_M_isTape, f_M_in, f_M_narrow, f_X_isTape_b0, f_X_narrowed_b0, f_M_isTape_b0, f_M_in_b0, f_M_narrow_b0, sh_sL, gI_sL, gR_sL, sh_cI, gR_cI, gL_sI, gL_sR, sh_cL, gR_cL, gI_cL, ok_kl, ok_cd, ok_gd, ok_bd, ok_rr1, ok_nr0, ok_nr1, ok_ret, sh_sI, gR_sI, sh_sR, gR_ne, gR_nk, gR_eq, gI_sR, gI_eq, gI_ne, gI_nk, hs, hr, ti_lt, ti_le, ti_eq, ti_nat, ti_0, ti_1, ti_2, ti_3, ti_4, ti_5, ti_6, ti_7, ti_8, ti_9, ti_10, ti_60, ti_99, ti_199, ti_100, ti_19, ti_20, ti_127, ti_n1, true_and, and_true, false_and, and_false, not_false_eq_true, not_true_eq_false, false_implies, true_implies, Int.reduceEq, Int.reduceLT, Int.reduceLE, Int.reduceNeg, or_self, or_true, true_or, or_false, false_or, false_or, implies_true, Int.toNat_natCast, ht, e1_0, e1_1, e1_2, e1_3, e1_4, e1_5, e1_6, e1_n, hlen, hsrt, hlm, hq, hq2, es, hs0, e2_0, e2_1, e2_2, e2_3, e2_4, e2_5]
        exact h
      · have z20 := z2
        have e2_0 : ¬ a2.toInt < 0 := by omega
        have e2_1 : 0 ≤ a2.toInt := by omega
        have e2_2 : ¬ a2.toInt < (gI w 179 t).toInt := by omega
        have e2_3 : (gI w 179 t).toInt ≤ a2.toInt := by omega
        have e2_4 : (gI w 179 t).toInt - 1 < a2.toInt := by omega
        have e2_5 : ¬ a2.toInt ≤ (gI w 179 t).toInt - 1 := by omega
        simp (disch := omega) only [f_X_item, f_M_item, f_X_item_b0, f_M_item_b0, f_X_isTape, f_X_narrowed, f_M_isTape, f_M_in, f_M_narrow, f_X_isTape_b0, f_X_narrowed_b0, f_M_isTape_b0, f_M_in_b0, f_M_narrow_b0, sh_sL, gI_sL, gR_sL, sh_cI, gR_cI, gL_sI, gL_sR, sh_cL, gR_cL, gI_cL, ok_kl, ok_cd, ok_gd, ok_bd, ok_rr1, ok_nr0, ok_nr1, ok_ret, sh_sI, gR_sI, sh_sR, gR_ne, gR_nk, gR_eq, gI_sR, gI_eq, gI_ne, gI_nk, hs, hr, ti_lt, ti_le, ti_eq, ti_nat, ti_0, ti_1, ti_2, ti_3, ti_4, ti_5, ti_6, ti_7, ti_8, ti_9, ti_10, ti_60, ti_99, ti_199, ti_100, ti_19, ti_20, ti_127, ti_n1, true_and, and_true, false_and, and_false, not_false_eq_true, not_true_eq_false, false_implies, true_implies, Int.reduceEq, Int.reduceLT, Int.reduceLE, Int.reduceNeg, or_self, or_true, true_or, or_false, false_or, false_or, implies_true, Int.toNat_natCast, ht, e1_0, e1_1, e1_2, e1_3, e1_4, e1_5, e1_6, e1_n, hlen, hsrt, hlm, hq, hq2, es, hs0, e2_0, e2_1, e2_2, e2_3, e2_4, e2_5]
        exact h
      · obtain ⟨i, hi⟩ : ∃ i : Nat, a2.toInt = (i : Int) := ⟨a2.toInt.toNat, by omega⟩
        have e2_0 : ¬ (i : Int) < 0 := by omega
        have e2_1 : 0 ≤ (i : Int) := by omega
        have e2_2 : (i : Int) < (gI w 179 t).toInt := by omega
        have e2_3 : ¬ (gI w 179 t).toInt ≤ (i : Int) := by omega
        have e2_4 : ¬ (gI w 179 t).toInt - 1 < (i : Int) := by omega
        have e2_5 : (i : Int) ≤ (gI w 179 t).toInt - 1 := by omega
        have hi60 : i < 60 := by omega
        have hi61 : ¬ 60 ≤ i := by omega
        have hx : (60 * a1 + a2).toInt = ((60 * t + i : Nat) : Int) := by rw [ti_add, ti_mul, ti_60, ht, hi] <;> (try rw [ti_mul]) <;> (try rw [ti_60, ht]) <;> omega
        have hx0 : ¬ ((60 * t + i : Nat) : Int) < 0 := by omega
        have hx1 : ¬ 360 ≤ 60 * t + i := by omega
        have hv : (gI w 178 t).toInt = 0 ∨ (gI w 178 t).toInt = 1 ∨ (gI w 178 t).toInt = 2 ∨ (gI w 178 t).toInt = 3 ∨ (gI w 178 t).toInt = 4 := by omega
        have hzz : (lg_cmp a3 0).toInt = 0 ∨ ¬ (lg_cmp a3 0).toInt = 0 := by omega
        rcases hzz with hz | hz <;> rcases hv with hv | hv | hv | hv | hv <;>
        simp (disch := omega) only [f_X_item, f_M_item, f_X_item_b0, f_M_item_b0, f_X_isTape, f_X_narrowed, f_M_isTape, f_M_in, f_M_narrow, f_X_isTape_b0, f_X_narrowed_b0, f_M_isTape_b0, f_M_in_b0, f_M_narrow_b0, sh_sL, gI_sL, gR_sL, sh_cI, gR_cI, gL_sI, gL_sR, sh_cL, gR_cL, gI_cL, ok_kl, ok_cd, ok_gd, ok_bd, ok_rr1, ok_nr0, ok_nr1, ok_ret, sh_sI, gR_sI, sh_sR, gR_ne, gR_nk, gR_eq, gI_sR, gI_eq, gI_ne, gI_nk, hs, hr, ti_lt, ti_le, ti_eq, ti_nat, ti_0, ti_1, ti_2, ti_3, ti_4, ti_5, ti_6, ti_7, ti_8, ti_9, ti_10, ti_60, ti_99, ti_199, ti_100, ti_19, ti_20, ti_127, ti_n1, true_and, and_true, false_and, and_false, not_false_eq_true, not_true_eq_false, false_implies, true_implies, Int.reduceEq, Int.reduceLT, Int.reduceLE, Int.reduceNeg, or_self, or_true, true_or, or_false, false_or, false_or, implies_true, Int.toNat_natCast, hi61, hx, hx0, hx1, hz, hv, ht, e1_0, e1_1, e1_2, e1_3, e1_4, e1_5, e1_6, e1_n, hlen, hsrt, hlm, hq, hq2, es, hs0, hi, e2_0, e2_1, e2_2, e2_3, e2_4, e2_5]
        all_goals exact h.u_item (Fr_sL (a := 180) (Fr_sL (a := 79 + t) Fr.rf (by simp only [List.mem_cons]; omega)) (by simp)) (lgA_set h.2.1.itm (by omega) hi60)
