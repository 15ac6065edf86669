/-! ===== shift, the call =====  -/
section SHIFTC
variable {N : Nat} {w u z : gW} {a1 a2 a3 a4 a5 : Int32}
def stre (a b s : Int32) : Prop := 0 ≤ b.toInt ∧ 0 ≤ a.toInt ∧ a.toInt + b.toInt ≤ s.toInt
theorem ti_n1s : (-1 : Int32).toInt = -1 := rfl
set_option maxHeartbeats 1000000 in
theorem c_Mshift {Q : Int32 → gW → Prop} (hN : 1000 ≤ N) (hL : Lay u) (hz : ∀ t, t < 6 → 0 ≤ (gI u 179 t).toInt ∧ (gI u 179 t).toInt ≤ 60) (hA : ¬ ((0 ≤ a1.toInt ∧ a1.toInt < 6) ∧ (0 ≤ a3.toInt ∧ a3.toInt < 6)) → Q (-1) u)
    (hB : ∀ t t' : Nat, t < 6 → t' < 6 → a1.toInt = (t : Int) → a3.toInt = (t' : Int) → ((gI u 178 t).toInt < 0 ∨ (gI u 178 t').toInt < 0) → Q (-11) u)
    (hC : ∀ t t' : Nat, t < 6 → t' < 6 → a1.toInt = (t : Int) → a3.toInt = (t' : Int) → 0 ≤ (gI u 178 t).toInt → 0 ≤ (gI u 178 t').toInt → ¬ gI u 178 t = gI u 178 t' → Q (-12) u)
    (hD : ∀ t t' : Nat, t < 6 → t' < 6 → a1.toInt = (t : Int) → a3.toInt = (t' : Int) → 0 ≤ (gI u 178 t).toInt → 0 ≤ (gI u 178 t').toInt → gI u 178 t = gI u 178 t' → ¬ (stre a2 a5 (gI u 179 t) ∧ stre a4 a5 (gI u 179 t')) → Q (-13) u)
    (hE : ∀ (t t' p q n : Nat) (z : gW), t < 6 → t' < 6 → a1.toInt = (t : Int) → a3.toInt = (t' : Int) → 0 ≤ (gI u 178 t).toInt → 0 ≤ (gI u 178 t').toInt → gI u 178 t = gI u 178 t' → stre a2 a5 (gI u 179 t) → stre a4 a5 (gI u 179 t') → a2.toInt = (p : Int) → a4.toInt = (q : Int) → a5.toInt = (n : Int) → Fr [180, 181] [] u z →
      (∀ j, gL z 180 j = if 60 * t' + q ≤ j ∧ j < 60 * t' + q + n then gL u 180 (60 * t + p + (j - (60 * t' + q))) else gL u 180 j) → Q a5 z) : ok (f_M_shift N 133 a1 a2 a3 a4 a5 u) Q := by
  have hx := lay_TP hL
  unfold f_M_shift f_M_shift_b0
  simp only [ok_gd, true_and, hx]
  refine ok_call (c_Mtape' hL) ?_
  rintro r1 u1 ⟨rfl, hr1⟩
  rw [ok_cd]
  refine ⟨fun c => ok_ret.mpr (hA (fun z => (hr1.z.mp c) z.1)), fun c => ?_⟩
  have c' := Classical.not_not.mp (fun z => c (hr1.z.mpr z))
  simp only [ok_gd, true_and, hx]
  refine ok_call (c_Mtape' hL) ?_
  rintro r2 u2 ⟨rfl, hr2⟩
  rw [ok_cd]
  refine ⟨fun d => ok_ret.mpr (hA (fun z => (hr2.z.mp d) z.2)), fun d => ?_⟩
  have d' := Classical.not_not.mp (fun z => d (hr2.z.mpr z))
  obtain ⟨t, htt⟩ : ∃ t : Nat, a1.toInt = (t : Int) := ⟨a1.toInt.toNat, by omega⟩
  have ht : t < 6 := by omega
  obtain ⟨t', htt'⟩ : ∃ t : Nat, a3.toInt = (t : Int) := ⟨a3.toInt.toNat, by omega⟩
  have ht' : t' < 6 := by omega
  have n1 := nat_of htt
  have g1 := ix_of (m := 6) htt ht
  rw [n1] at g1
  have n3 := nat_of htt'
  have g3 := ix_of (m := 6) htt' ht'
  rw [n3] at g3
  have z1 := hz t ht
  have z3 := hz t' ht'
  simp only [ok_gd, ok_rr, ok_bd, true_and, hx, n1, g1, n3, g3, not_false_eq_true]
  refine ⟨_, rfl, ?_⟩
  simp only [ok_gd, ok_rr, ok_bd, true_and, hx, n1, g1, n3, g3, not_false_eq_true]
  rw [ok_cd]
  refine ⟨fun e => ?_, fun e => ?_⟩
  · rw [ti_lt, ti_0] at e
    exact ok_ret.mpr (hB t t' ht ht' htt htt' (Or.inl e))
  rw [ti_lt, ti_0] at e
  simp only [ok_gd, ok_bd, true_and]
  rw [ok_cd]
  refine ⟨fun g => ?_, fun g => ?_⟩
  · rw [ti_le, ti_0] at g
    simp only [ok_bd]
    rw [ok_cd]
    refine ⟨fun i => ?_, fun i => ok_ret.mpr (hC t t' ht ht' htt htt' (by omega) g i)⟩
    have no := fun x => hD t t' ht ht' htt htt' (by omega) g i x
    rw [ok_cd]
    refine ⟨fun s => ?_, fun s => ?_⟩ <;> rw [ti_lt, ti_0] at s
    · exact ok_ret.mpr (no (fun y => by have := y.1.1; omega))
    rw [ok_cd]
    refine ⟨fun s2 => ?_, fun s2 => ?_⟩ <;> rw [ti_lt, ti_0] at s2
    · exact ok_ret.mpr (no (fun y => by have := y.1.2.1; omega))
    rw [ok_cd]
    refine ⟨fun s4 => ?_, fun s4 => ?_⟩ <;> rw [ti_lt, ti_0] at s4
    · exact ok_ret.mpr (no (fun y => by have := y.2.2.1; omega))
    have j5 := J_in a5
    have m1 : (gI u2 179 t - a5).toInt = (gI u2 179 t).toInt - a5.toInt := by rw [ti_sub] ; omega
    have m3 : (gI u2 179 t' - a5).toInt = (gI u2 179 t').toInt - a5.toInt := by rw [ti_sub] ; omega
    simp only [ok_gd, ok_rr, ok_bd, true_and, hx, n1, g1, n3, g3, not_false_eq_true]
    refine ⟨_, rfl, ?_⟩
    simp only [ok_gd, ok_bd, true_and, hx, n1, g1, n3, g3, not_false_eq_true]
    rw [ok_cd]
    refine ⟨fun v => ?_, fun v => ?_⟩ <;> rw [ti_lt, m1] at v
    · exact ok_ret.mpr (no (fun y => by have := y.1.2.2; omega))
    simp only [ok_gd, ok_bd, true_and, hx, n1, g1, n3, g3, not_false_eq_true]
    rw [ok_cd]
    refine ⟨fun x => ?_, fun x => ?_⟩ <;> rw [ti_le, m3] at x
    · obtain ⟨p, hp⟩ : ∃ t : Nat, a2.toInt = (t : Int) := ⟨a2.toInt.toNat, by omega⟩
      obtain ⟨q, hq⟩ : ∃ t : Nat, a4.toInt = (t : Int) := ⟨a4.toInt.toNat, by omega⟩
      obtain ⟨n, hn⟩ : ∃ t : Nat, a5.toInt = (t : Int) := ⟨a5.toInt.toNat, by omega⟩
      refine (c_Msh hN hL htt ht hp htt' ht' hq hn (by omega) (by omega)).mono ?_
      rintro r z ⟨rfl, fz, hz'⟩
      exact hE t t' p q n z ht ht' htt htt' (by omega) g i ⟨by omega, by omega, by omega⟩ ⟨by omega, by omega, by omega⟩ hp hq hn fz hz'
    · exact ok_ret.mpr (no (fun y => by have := y.2.2.2; omega))
  · rw [ti_le, ti_0] at g
    exact ok_ret.mpr (hB t t' ht ht' htt htt' (Or.inr (by omega)))
end SHIFTC
