/-! ===== shift, the class =====  -/
section SHIFTE
variable {N : Nat} {w : gW} {a1 a2 a3 a4 a5 : Int32}
set_option maxHeartbeats 1000000 in
theorem p_shift (hN : 1000 ≤ N) (h : Sim w) : ok (f_X_shift N 0 a1 a2 a3 a4 a5 w) (fun r w1 => ok (f_M_shift N 133 a1 a2 a3 a4 a5 w1) (fun r' w2 => r = r' ∧ Sim w2)) := by
  have hx := lay_TP h.1
  unfold f_X_shift f_X_shift_b0
  refine ok_call c_Xtape' ?_
  rintro r1 u1 ⟨rfl, hr1⟩
  rw [ok_cd]
  refine ⟨fun c => ok_ret.mpr (shift_none hN h (fun z => (hr1.z.mp c) z.1)), fun c => ?_⟩
  have c' := Classical.not_not.mp (fun z => c (hr1.z.mpr z))
  refine ok_call c_Xtape' ?_
  rintro r2 u2 ⟨rfl, hr2⟩
  rw [ok_cd]
  refine ⟨fun d => ok_ret.mpr (shift_none hN h (fun z => (hr2.z.mp d) z.2)), fun d => ?_⟩
  have d' := Classical.not_not.mp (fun z => d (hr2.z.mpr z))
  obtain ⟨t, htt⟩ : ∃ t : Nat, a1.toInt = (t : Int) := ⟨a1.toInt.toNat, by omega⟩
  have ht : t < 6 := by omega
  obtain ⟨t', htt'⟩ : ∃ t : Nat, a3.toInt = (t : Int) := ⟨a3.toInt.toNat, by omega⟩
  have ht' : t' < 6 := by omega
  have n1 := nat_of htt
  have g1 := ix_of (m := 6) htt ht
  rw [n1] at g1
  have n3 := nat_of htt'
  have g3 := ix_of (m := 6) htt' ht'
  rw [n3] at g3
  have s1 : gI u2 76 t = gI u2 178 t := h.2.1.srt t ht
  have s3 : gI u2 76 t' = gI u2 178 t' := h.2.1.srt t' ht'
  have z1 : gI u2 77 t = gI u2 179 t := h.2.1.len t ht
  have z3 : gI u2 77 t' = gI u2 179 t' := h.2.1.len t' ht'
  have w1 := h.2.1.srtr t ht
  have w3 := h.2.1.srtr t' ht'
  have l1 := h.len60 t ht
  have l3 := h.len60 t' ht'
  simp only [ok_gd, ok_rr, ok_bd, true_and, hx, n1, g1, n3, g3, not_false_eq_true]
  refine ⟨_, rfl, ?_⟩
  simp only [ok_gd, ok_bd, true_and, hx, n1, g1, n3, g3, not_false_eq_true]
  rw [ok_cd]
  refine ⟨fun e => ?_, fun e => ?_⟩ <;> rw [ti_eq, s1, ti_n1s] at e
  · exact ok_ret.mpr (shift_no hN h ht ht' htt htt' (fun _ => rfl) (fun z _ _ => by omega) (fun z _ _ _ => by omega) (fun z _ _ _ _ => by omega))
  simp only [ok_gd, ok_bd, true_and]
  rw [ok_cd]
  refine ⟨fun g => ?_, fun g => ?_⟩ <;> rw [ti_eq, s3, ti_n1s] at g
  · exact ok_ret.mpr (shift_no hN h ht ht' htt htt' (fun _ => rfl) (fun _ z _ => by omega) (fun _ z _ _ => by omega) (fun _ z _ _ _ => by omega))
  have p1 : 0 ≤ (gI u2 178 t).toInt := by omega
  have p3 : 0 ≤ (gI u2 178 t').toInt := by omega
  simp only [ok_bd]
  rw [ok_cd]
  refine ⟨fun i => ?_, fun i => ?_⟩ <;> rw [s1, s3] at i
  · simp only [ok_gd, ok_rr, ok_bd, true_and, hx, n1, g1, n3, g3, not_false_eq_true]
    refine ⟨_, rfl, ?_⟩
    simp only [ok_gd, ok_bd, true_and, hx, n1, g1, n3, g3, not_false_eq_true]
    refine ok_call (c_Xstretch (by rw [z1]; exact l1)) ?_
    rintro r4 u4 ⟨rfl, hr4⟩
    rw [z1] at hr4
    rw [ok_cd]
    refine ⟨fun k => ?_, fun k => ?_⟩
    · have k' := hr4.z.mp k
      exact ok_ret.mpr (shift_no hN h ht ht' htt htt' (fun z => by omega) (fun _ _ z => absurd i z) (fun _ _ _ _ => rfl) (fun _ _ _ y _ => k' y))
    have k' := Classical.not_not.mp (fun z => k (hr4.z.mpr z))
    simp only [ok_gd, ok_rr, ok_bd, true_and, hx, n1, g1, n3, g3, not_false_eq_true]
    refine ⟨_, rfl, ?_⟩
    simp only [ok_gd, ok_bd, true_and, hx, n1, g1, n3, g3, not_false_eq_true]
    refine ok_call (c_Xstretch (by rw [z3]; exact l3)) ?_
    rintro r5 u5 ⟨rfl, hr5⟩
    rw [z3] at hr5
    rw [ok_cd]
    refine ⟨fun m => ?_, fun m => ?_⟩
    · have m' := hr5.z.mp m
      exact ok_ret.mpr (shift_no hN h ht ht' htt htt' (fun z => by omega) (fun _ _ z => absurd i z) (fun _ _ _ _ => rfl) (fun _ _ _ _ y => m' y))
    have m' := Classical.not_not.mp (fun z => m (hr5.z.mpr z))
    obtain ⟨p, hp⟩ : ∃ t : Nat, a2.toInt = (t : Int) := ⟨a2.toInt.toNat, by omega⟩
    obtain ⟨q, hq⟩ : ∃ t : Nat, a4.toInt = (t : Int) := ⟨a4.toInt.toNat, by omega⟩
    obtain ⟨n, hn⟩ : ∃ t : Nat, a5.toInt = (t : Int) := ⟨a5.toInt.toNat, by omega⟩
    have np := nat_of hp
    have nq := nat_of hq
    have nn := nat_of hn
    have b2 : ¬ a2 < 0 := by rw [ti_lt, ti_0]; omega
    have b4 : ¬ a4 < 0 := by rw [ti_lt, ti_0]; omega
    have b5 : ¬ a5 < 0 := by rw [ti_lt, ti_0]; omega
    have q1 := lay_r78 h.1 ht
    have q3 := lay_r78 h.1 ht'
    have y1 := lay_s79 h.1 ht
    have y3 := lay_s79 h.1 ht'
    have v1 : p + n ≤ 60 := by omega
    have v3 : q + n ≤ 60 := by omega
    simp only [ok_gd, ok_bd, ok_rr1, ok_nr0, ok_nr1, ok_ret, true_and, and_true, not_false_eq_true, sh_sI, sh_sR, sh_sL, gR_sI, gR_sL, gI_sR, gI_sL, sh_cI, gR_cI, hx, n1, g1, n3, g3, q1, q3, y1, y3, b2, b4, b5, np, nq, nn, v1, v3]
    exact shift_yes hN h ht ht' htt htt' p1 p3 i k' m' hp hq hn
  · exact ok_ret.mpr (shift_no hN h ht ht' htt htt' (fun z => by omega) (fun _ _ _ => rfl) (fun _ _ z _ => absurd z i) (fun _ _ z _ _ => absurd z i))
end SHIFTE
