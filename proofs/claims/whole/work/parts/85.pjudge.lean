set_option maxHeartbeats 8000000 in
theorem p_judge {w : gW} {N : Nat} {a1 a2 : Int32} (hN : 100 ≤ N) (h : Sim w) : ok (f_X_judge N 0 a1 a2 w) (fun r w1 => ok (f_M_judge N 133 a1 a2 w1) (fun r' w2 => r = r' ∧ Sim w2)) := by
  have hs := lay_se h.1
  have hr := lay_re h.1
  by_cases c0 : a1.toInt < 0
  · simp (disch := omega) only [f_X_judge, f_X_judge_b0, f_M_judge, f_M_judge_b0, f_X_isTape, f_X_isTape_b0, f_M_isTape, f_M_isTape_b0, f_M_in, f_M_in_b0, sh_sL, gI_sL, gR_sL, sh_cI, gR_cI, gL_sI, gL_sR, sh_cL, gR_cL, gI_cL, ok_kl, ok_cd, ok_gd, ok_bd, ok_rr1, ok_nr0, ok_nr1, ok_ret, sh_sI, gR_sI, sh_sR, gR_ne, gR_nk, gR_eq, gI_sR, gI_eq, gI_ne, gI_nk, hs, hr, ti_lt, ti_le, ti_eq, ti_nat, ti_0, ti_1, ti_2, ti_3, ti_4, ti_5, ti_6, ti_7, ti_8, ti_9, ti_10, ti_60, ti_99, ti_199, ti_100, ti_19, ti_20, ti_127, ti_n1, true_and, and_true, false_and, and_false, not_false_eq_true, not_true_eq_false, false_implies, true_implies, Int.reduceEq, Int.reduceLT, Int.reduceLE, Int.reduceNeg, or_self, or_true, true_or, or_false, false_or, false_or, implies_true, Int.toNat_natCast, c0]
    exact h
  by_cases c6 : 6 ≤ a1.toInt
  · have c5 : 5 < a1.toInt := by omega
    simp (disch := omega) only [f_X_judge, f_X_judge_b0, f_M_judge, f_M_judge_b0, f_X_isTape, f_X_isTape_b0, f_M_isTape, f_M_isTape_b0, f_M_in, f_M_in_b0, sh_sL, gI_sL, gR_sL, sh_cI, gR_cI, gL_sI, gL_sR, sh_cL, gR_cL, gI_cL, ok_kl, ok_cd, ok_gd, ok_bd, ok_rr1, ok_nr0, ok_nr1, ok_ret, sh_sI, gR_sI, sh_sR, gR_ne, gR_nk, gR_eq, gI_sR, gI_eq, gI_ne, gI_nk, hs, hr, ti_lt, ti_le, ti_eq, ti_nat, ti_0, ti_1, ti_2, ti_3, ti_4, ti_5, ti_6, ti_7, ti_8, ti_9, ti_10, ti_60, ti_99, ti_199, ti_100, ti_19, ti_20, ti_127, ti_n1, true_and, and_true, false_and, and_false, not_false_eq_true, not_true_eq_false, false_implies, true_implies, Int.reduceEq, Int.reduceLT, Int.reduceLE, Int.reduceNeg, or_self, or_true, true_or, or_false, false_or, false_or, implies_true, Int.toNat_natCast, c0, c6, c5]
    exact h
  obtain ⟨t, ht⟩ : ∃ t : Nat, a1.toInt = (t : Int) := ⟨a1.toInt.toNat, by omega⟩
  have u1 : ¬ (t : Int) < 0 := by omega
  have u2 : ¬ 6 ≤ (t : Int) := by omega
  have u3 : ¬ 5 < (t : Int) := by omega
  have u4 : ¬ 6 ≤ t := by omega
  have hlen : gI w 77 t = gI w 179 t := h.2.1.len t (by omega)
  have hsrt : gI w 76 t = gI w 178 t := h.2.1.srt t (by omega)
  have hlr : 0 ≤ (gI w 179 t).toInt ∧ (gI w 179 t).toInt ≤ 60 := h.2.1.lenr t (by omega)
  have hsr : -1 ≤ (gI w 178 t).toInt ∧ (gI w 178 t).toInt ≤ 4 := h.2.1.srtr t (by omega)
  have v0 : ((100 : Int32) + 0).toInt = 100 := rfl
  obtain ⟨n, rfl⟩ : ∃ n, N = n + 1 := ⟨N - 1, by omega⟩
  have LX : ∀ a, f_X_judge_l53 (n + 1) 0 a1 a2 a w = itr (fun rec (q : Nat × Int32 × Int32 × Int32 × gW) => f_X_judge_b53 (n + 1) rec q.1 q.2.1 q.2.2.1 q.2.2.2.1 q.2.2.2.2) (n + 1) (0, a1, a2, a, w) := fun _ => rfl
  have LM : ∀ a, f_M_judge_l24 (n + 1) 133 a1 a2 a w = itr (fun rec (q : Nat × Int32 × Int32 × Int32 × gW) => f_M_judge_b24 (n + 1) rec q.1 q.2.1 q.2.2.1 q.2.2.2.1 q.2.2.2.2) (n + 1) (133, a1, a2, a, w) := fun _ => rfl
  have L1 : ∀ (Q : Int32 → gW → Prop), (∀ r, r.toInt = 100 → Q r w) → ((gI w 178 t).toInt < 0 ∨ a2.toInt < 0 ∨ (gI w 179 t).toInt ≤ a2.toInt) → ok (f_M_judge_l24 (n + 1) 133 a1 a2 0 w) Q := fun Q hQ hz => by
    have k0 : ((100 : Int32) + 0).toInt = 100 := rfl
    have x2 : (gI w 179 t - 0 - 1).toInt = (gI w 179 t).toInt - 1 := by
      have : (gI w 179 t - 0).toInt = (gI w 179 t).toInt := by rw [ti_sub] <;> rw [ti_0] <;> omega
      rw [ti_sub] <;> rw [this, ti_1] ; omega
    have w6 : ¬ (6 : Int) ≤ 0 := by omega
    rw [LM, itr_s]
    show ok (f_M_judge_b24 (n + 1) _ 133 a1 a2 0 w) Q
    rw [f_M_judge_b24]
    simp (disch := omega) only [ok_cd, ok_gd, ok_bd, ok_rr1, ok_ret, hs, hr, ti_lt, ti_le, ti_nat, ti_0, ti_6, Int.toNat_natCast, ht, u1, u4, x2, w6, true_and, and_true, or_self, not_false_eq_true, not_true_eq_false, false_implies, true_implies]
    by_cases g1 : (gI w 178 t).toInt < 0
    · simp only [g1, true_implies, not_true_eq_false, false_implies, and_true]; exact hQ _ k0
    by_cases g2 : a2.toInt < 0
    · simp only [g1, g2, true_implies, not_true_eq_false, not_false_eq_true, false_implies, and_true, true_and]; exact hQ _ k0
    have g3 : ¬ a2.toInt ≤ (gI w 179 t).toInt - 1 := by omega
    simp only [g1, g2, g3, true_implies, not_true_eq_false, not_false_eq_true, false_implies, and_true, true_and]; exact hQ _ k0
  by_cases s1 : (gI w 178 t).toInt = -1
  · have s2 : (gI w 178 t).toInt ≤ 0 := by omega
    simp (disch := omega) only [f_X_judge, f_X_judge_b0, f_M_judge, f_M_judge_b0, f_X_isTape, f_X_isTape_b0, f_M_isTape, f_M_isTape_b0, f_M_in, f_M_in_b0, sh_sL, gI_sL, gR_sL, sh_cI, gR_cI, gL_sI, gL_sR, sh_cL, gR_cL, gI_cL, ok_kl, ok_cd, ok_gd, ok_bd, ok_rr1, ok_nr0, ok_nr1, ok_ret, sh_sI, gR_sI, sh_sR, gR_ne, gR_nk, gR_eq, gI_sR, gI_eq, gI_ne, gI_nk, hs, hr, ti_lt, ti_le, ti_eq, ti_nat, ti_0, ti_1, ti_2, ti_3, ti_4, ti_5, ti_6, ti_7, ti_8, ti_9, ti_10, ti_60, ti_99, ti_199, ti_100, ti_19, ti_20, ti_127, ti_n1, true_and, and_true, false_and, and_false, not_false_eq_true, not_true_eq_false, false_implies, true_implies, Int.reduceEq, Int.reduceLT, Int.reduceLE, Int.reduceNeg, or_self, or_true, true_or, or_false, false_or, false_or, implies_true, Int.toNat_natCast, hlen, hsrt, ht, u1, u2, u3, u4, s1]
    exact L1 _ (fun r hr' => ⟨by rw [hr'], h⟩) (Or.inl (by omega))
  by_cases s0 : (gI w 178 t).toInt = 0
  · have s3 : ¬ (0 : Int) = -1 := by omega
    by_cases g2 : a2.toInt < 0
    · simp (disch := omega) only [f_X_judge, f_X_judge_b0, f_M_judge, f_M_judge_b0, f_X_isTape, f_X_isTape_b0, f_M_isTape, f_M_isTape_b0, f_M_in, f_M_in_b0, sh_sL, gI_sL, gR_sL, sh_cI, gR_cI, gL_sI, gL_sR, sh_cL, gR_cL, gI_cL, ok_kl, ok_cd, ok_gd, ok_bd, ok_rr1, ok_nr0, ok_nr1, ok_ret, sh_sI, gR_sI, sh_sR, gR_ne, gR_nk, gR_eq, gI_sR, gI_eq, gI_ne, gI_nk, hs, hr, ti_lt, ti_le, ti_eq, ti_nat, ti_0, ti_1, ti_2, ti_3, ti_4, ti_5, ti_6, ti_7, ti_8, ti_9, ti_10, ti_60, ti_99, ti_199, ti_100, ti_19, ti_20, ti_127, ti_n1, true_and, and_true, false_and, and_false, not_false_eq_true, not_true_eq_false, false_implies, true_implies, Int.reduceEq, Int.reduceLT, Int.reduceLE, Int.reduceNeg, or_self, or_true, true_or, or_false, false_or, false_or, implies_true, Int.toNat_natCast, hlen, hsrt, ht, u1, u2, u3, u4, s0, s3, g2]
      exact L1 _ (fun r hr' => ⟨by rw [hr'], h⟩) (Or.inr (Or.inl g2))
    by_cases g3 : a2.toInt < (gI w 179 t).toInt
    · obtain ⟨i, hi⟩ : ∃ i : Nat, a2.toInt = (i : Int) := ⟨a2.toInt.toNat, by omega⟩
      have LL := judge_loop (N := n + 1) h ht (by omega) hi (by omega) (by omega) _ _ (fun _ _ => rfl) (fun _ _ => rfl) 6 0 (n + 1) (n + 1) 0 (by omega) (by omega) (by omega) ti_0
      rw [← LX, ← LM] at LL
      simp (disch := omega) only [f_X_judge, f_X_judge_b0, f_M_judge, f_M_judge_b0, f_X_isTape, f_X_isTape_b0, f_M_isTape, f_M_isTape_b0, f_M_in, f_M_in_b0, sh_sL, gI_sL, gR_sL, sh_cI, gR_cI, gL_sI, gL_sR, sh_cL, gR_cL, gI_cL, ok_kl, ok_cd, ok_gd, ok_bd, ok_rr1, ok_nr0, ok_nr1, ok_ret, sh_sI, gR_sI, sh_sR, gR_ne, gR_nk, gR_eq, gI_sR, gI_eq, gI_ne, gI_nk, hs, hr, ti_lt, ti_le, ti_eq, ti_nat, ti_0, ti_1, ti_2, ti_3, ti_4, ti_5, ti_6, ti_7, ti_8, ti_9, ti_10, ti_60, ti_99, ti_199, ti_100, ti_19, ti_20, ti_127, ti_n1, true_and, and_true, false_and, and_false, not_false_eq_true, not_true_eq_false, false_implies, true_implies, Int.reduceEq, Int.reduceLT, Int.reduceLE, Int.reduceNeg, or_self, or_true, true_or, or_false, false_or, false_or, implies_true, Int.toNat_natCast, hlen, hsrt, ht, u1, u2, u3, u4, s0, s3, g2, g3]
      refine LL.mono ?_
      rintro r w1 ⟨rfl, hh⟩
      simp (disch := omega) only [f_X_judge, f_X_judge_b0, f_M_judge, f_M_judge_b0, f_X_isTape, f_X_isTape_b0, f_M_isTape, f_M_isTape_b0, f_M_in, f_M_in_b0, sh_sL, gI_sL, gR_sL, sh_cI, gR_cI, gL_sI, gL_sR, sh_cL, gR_cL, gI_cL, ok_kl, ok_cd, ok_gd, ok_bd, ok_rr1, ok_nr0, ok_nr1, ok_ret, sh_sI, gR_sI, sh_sR, gR_ne, gR_nk, gR_eq, gI_sR, gI_eq, gI_ne, gI_nk, hs, hr, ti_lt, ti_le, ti_eq, ti_nat, ti_0, ti_1, ti_2, ti_3, ti_4, ti_5, ti_6, ti_7, ti_8, ti_9, ti_10, ti_60, ti_99, ti_199, ti_100, ti_19, ti_20, ti_127, ti_n1, true_and, and_true, false_and, and_false, not_false_eq_true, not_true_eq_false, false_implies, true_implies, Int.reduceEq, Int.reduceLT, Int.reduceLE, Int.reduceNeg, or_self, or_true, true_or, or_false, false_or, false_or, implies_true, Int.toNat_natCast, hlen, hsrt, ht, u1, u2, u3, u4, s0, s3, g2, g3]
      refine hh.mono ?_
      rintro r' w2 ⟨e, rfl⟩
      exact ⟨e, h⟩
    · simp (disch := omega) only [f_X_judge, f_X_judge_b0, f_M_judge, f_M_judge_b0, f_X_isTape, f_X_isTape_b0, f_M_isTape, f_M_isTape_b0, f_M_in, f_M_in_b0, sh_sL, gI_sL, gR_sL, sh_cI, gR_cI, gL_sI, gL_sR, sh_cL, gR_cL, gI_cL, ok_kl, ok_cd, ok_gd, ok_bd, ok_rr1, ok_nr0, ok_nr1, ok_ret, sh_sI, gR_sI, sh_sR, gR_ne, gR_nk, gR_eq, gI_sR, gI_eq, gI_ne, gI_nk, hs, hr, ti_lt, ti_le, ti_eq, ti_nat, ti_0, ti_1, ti_2, ti_3, ti_4, ti_5, ti_6, ti_7, ti_8, ti_9, ti_10, ti_60, ti_99, ti_199, ti_100, ti_19, ti_20, ti_127, ti_n1, true_and, and_true, false_and, and_false, not_false_eq_true, not_true_eq_false, false_implies, true_implies, Int.reduceEq, Int.reduceLT, Int.reduceLE, Int.reduceNeg, or_self, or_true, true_or, or_false, false_or, false_or, implies_true, Int.toNat_natCast, hlen, hsrt, ht, u1, u2, u3, u4, s0, s3, g2, g3]
      exact L1 _ (fun r hr' => ⟨by rw [hr'], h⟩) (Or.inr (Or.inr (by omega)))
  · have s4 : ¬ (gI w 178 t).toInt ≤ 0 := by omega
    simp (disch := omega) only [f_X_judge, f_X_judge_b0, f_M_judge, f_M_judge_b0, f_X_isTape, f_X_isTape_b0, f_M_isTape, f_M_isTape_b0, f_M_in, f_M_in_b0, sh_sL, gI_sL, gR_sL, sh_cI, gR_cI, gL_sI, gL_sR, sh_cL, gR_cL, gI_cL, ok_kl, ok_cd, ok_gd, ok_bd, ok_rr1, ok_nr0, ok_nr1, ok_ret, sh_sI, gR_sI, sh_sR, gR_ne, gR_nk, gR_eq, gI_sR, gI_eq, gI_ne, gI_nk, hs, hr, ti_lt, ti_le, ti_eq, ti_nat, ti_0, ti_1, ti_2, ti_3, ti_4, ti_5, ti_6, ti_7, ti_8, ti_9, ti_10, ti_60, ti_99, ti_199, ti_100, ti_19, ti_20, ti_127, ti_n1, true_and, and_true, false_and, and_false, not_false_eq_true, not_true_eq_false, false_implies, true_implies, Int.reduceEq, Int.reduceLT, Int.reduceLE, Int.reduceNeg, or_self, or_true, true_or, or_false, false_or, false_or, implies_true, Int.toNat_natCast, hlen, hsrt, ht, u1, u2, u3, u4, s0, s1, s4]
    exact h
