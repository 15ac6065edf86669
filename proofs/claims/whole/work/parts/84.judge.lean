set_option maxHeartbeats 8000000 in
theorem judge_loop {w : gW} {N : Nat} (h : Sim w) {a1 a2 : Int32} {t i : Nat} (ht : a1.toInt = (t : Int)) (ht6 : t < 6) (hi : a2.toInt = (i : Int)) (hi60 : i < 60) (hs0 : ¬ (gI w 178 t).toInt < 0) :
    ∀ (FX : (Nat × Int32 × Int32 × Int32 × gW → Option (Int32 × gW)) → Nat × Int32 × Int32 × Int32 × gW → Option (Int32 × gW)) (FM : (Nat × Int32 × Int32 × Int32 × gW → Option (Int32 × gW)) → Nat × Int32 × Int32 × Int32 × gW → Option (Int32 × gW)),
      (∀ rec q, FX rec q = f_X_judge_b53 N rec q.1 q.2.1 q.2.2.1 q.2.2.2.1 q.2.2.2.2) → (∀ rec q, FM rec q = f_M_judge_b24 N rec q.1 q.2.1 q.2.2.1 q.2.2.2.1 q.2.2.2.2) →
      ∀ (d s n m : Nat) (a3 : Int32), s + d = 6 → d < n → d < m → a3.toInt = (s : Int) →
      ok (itr FX n (0, a1, a2, a3, w)) (fun r w1 => w1 = w ∧ ok (itr FM m (133, a1, a2, a3, w)) (fun r' w2 => r.toInt = r'.toInt ∧ w2 = w)) := by
  intro FX FM eX eM d
  have hs := lay_se h.1
  have hr := lay_re h.1
  have hlen : gI w 77 t = gI w 179 t := h.2.1.len t (by omega)
  have hlr : 0 ≤ (gI w 179 t).toInt ∧ (gI w 179 t).toInt ≤ 60 := h.2.1.lenr t (by omega)
  have hq := lay_r78 h.1 (t := t) (by omega)
  have hq2 := lay_s79 h.1 (t := t) (by omega)
  have u1 : ¬ (t : Int) < 0 := by omega
  have u2 : ¬ 6 ≤ t := by omega
  have u3 : ¬ (i : Int) < 0 := by omega
  induction d with
  | zero =>
    intro s n m a3 h1 h2 h3 h4
    obtain ⟨n, rfl⟩ : ∃ k, n = k + 1 := ⟨n - 1, by omega⟩
    obtain ⟨m, rfl⟩ : ∃ k, m = k + 1 := ⟨m - 1, by omega⟩
    have e1 : (6 : Int) ≤ a3.toInt := by omega
    simp (disch := omega) only [itr_s, eX, eM, f_X_judge_b53, f_M_judge_b24, ok_cd, ok_ret, ti_le, ti_6, e1, true_implies, not_true_eq_false, false_implies, and_true, true_and]
  | succ d ih =>
    intro s n m a3 h1 h2 h3 h4
    obtain ⟨n, rfl⟩ : ∃ k, n = k + 1 := ⟨n - 1, by omega⟩
    obtain ⟨m, rfl⟩ : ∃ k, m = k + 1 := ⟨m - 1, by omega⟩
    have ih' := ih (s + 1) n m (a3 + 1) (by omega) (by omega) (by omega) (by rw [ti_add (by rw [ti_1]; omega), ti_1]; omega)
    have e1 : ¬ (6 : Int) ≤ (s : Int) := by omega
    have e2 : ¬ (s : Int) < 0 := by omega
    have e3 : ¬ 6 ≤ s := by omega
    have x1 : (a2 + a3).toInt = ((i + s : Nat) : Int) := by rw [ti_add] <;> omega
    have x2 : (gI w 179 t - a3 - 1).toInt = (gI w 179 t).toInt - (s : Int) - 1 := by
      have : (gI w 179 t - a3).toInt = (gI w 179 t).toInt - (s : Int) := by rw [ti_sub] <;> omega
      rw [ti_sub] <;> rw [this, ti_1] ; omega
    have x3 : (60 * a1 + a2 + a3).toInt = ((60 * t + i + s : Nat) : Int) := by
      have y1 : (60 * a1).toInt = 60 * (t : Int) := by rw [ti_mul] <;> rw [ti_60, ht] ; omega
      have y2 : (60 * a1 + a2).toInt = 60 * (t : Int) + i := by rw [ti_add] <;> rw [y1, hi] ; omega
      rw [ti_add] <;> rw [y2, h4] <;> omega
    have x4 : ¬ ((i + s : Nat) : Int) < 0 := by omega
    have x5 : ¬ ((60 * t + i + s : Nat) : Int) < 0 := by omega
    have ht2 : gI w 22 s = gI w 140 s := h.2.1.atil s (by omega)
    by_cases c : i + s < (gI w 179 t).toInt
    · have c1 : ((i + s : Nat) : Int) < (gI w 179 t).toInt := by omega
      have c2 : (i : Int) ≤ (gI w 179 t).toInt - (s : Int) - 1 := by omega
      have c3 : ¬ 60 ≤ i + s := by omega
      have c4 : ¬ 360 ≤ 60 * t + i + s := by omega
      have hL : gL w (79 + t) (i + s) = gL w 180 (60 * t + i + s) := by rw [Nat.add_assoc]; exact h.2.1.itm t (i + s) (by omega) (by omega) (by omega)
      by_cases z : (lg_cmp (gL w 180 (60 * t + i + s)) (gI w 140 s).toInt64).toInt = 0
      · simp (disch := omega) only [itr_s, eX, eM, f_X_judge_b53, f_M_judge_b24, ok_cd, ok_gd, ok_bd, ok_rr1, ok_ret, hs, hr, hlen, hq, hq2, u1, u2, u3, ht, hi, h4, e1, e2, e3, x1, x2, x3, x4, x5, ht2, c1, c2, c3, c4, hL, z, hs0, ti_lt, ti_le, ti_eq, ti_nat, ti_0, ti_6, Int.toNat_natCast, true_implies, not_true_eq_false, not_false_eq_true, false_implies, and_true, true_and, or_self]
        exact ih'
      · simp (disch := omega) only [itr_s, eX, eM, f_X_judge_b53, f_M_judge_b24, ok_cd, ok_gd, ok_bd, ok_rr1, ok_ret, hs, hr, hlen, hq, hq2, u1, u2, u3, ht, hi, h4, e1, e2, e3, x1, x2, x3, x4, x5, ht2, c1, c2, c3, c4, hL, z, hs0, ti_lt, ti_le, ti_eq, ti_nat, ti_0, ti_6, Int.toNat_natCast, true_implies, not_true_eq_false, not_false_eq_true, false_implies, and_true, true_and, or_self]
    · have c1 : ¬ ((i + s : Nat) : Int) < (gI w 179 t).toInt := by omega
      have c2 : ¬ (i : Int) ≤ (gI w 179 t).toInt - (s : Int) - 1 := by omega
      simp (disch := omega) only [itr_s, eX, eM, f_X_judge_b53, f_M_judge_b24, ok_cd, ok_gd, ok_bd, ok_rr1, ok_ret, hs, hr, hlen, hq, hq2, u1, u2, u3, ht, hi, h4, e1, e2, e3, x1, x2, x3, x4, x5, c1, c2, hs0, ti_lt, ti_le, ti_eq, ti_nat, ti_0, ti_6, Int.toNat_natCast, true_implies, not_true_eq_false, not_false_eq_true, false_implies, and_true, true_and, or_self]
