/-! ===== acts: hands of the model =====  -/
section ACTN
variable {N p kd : Nat} {w u z : gW} {i v x : Int32} {s : Nat × (Nat → Int32)}
theorem c_Mph (hL : Lay w) (hs : s.1 ≤ 890) (hp : PM w p kd i v) (q : TRm w s) : ok (f_M_payerHands N 133 i x w) (fun r u => Fr [177] [(133, 66)] w u ∧ r = (phR kd i v x s).1 ∧ TRm u (phR kd i v x s).2) := by
  have hx := lay_A hL
  have n1 := nat_of hp.1
  have g1 := ix_of (m := 4) hp.1 hp.2.1
  rw [n1] at g1
  unfold f_M_payerHands f_M_payerHands_b0
  simp only [ok_gd, true_and, hx]
  refine ok_call (c_body hL (by omega) q) ?_
  rintro - u ⟨f, g⟩
  have hx' := lay_A (f.lay hL)
  simp only [ok_gd, true_and, hx']
  refine ok_call (c_Mcounts (f.lay hL) (by simp only [trs]; omega) (hp.fr f) g) ?_
  rintro r z ⟨f', hr, g'⟩
  have hi' := lay_I (f'.lay (f.lay hL))
  have e136 := ((hp.fr f).fr f').2.2.2.2
  simp only [ok_gd, ok_bd, ok_rr1, ok_nr0, ok_nr1, ok_ret, true_and, and_true, not_false_eq_true, sh_sI, sh_sR, sh_sL, gR_sI, gR_sL, gI_sR, gI_sL, sh_cI, gR_cI, hi', n1, g1, e136]
  exact ⟨f.tr f', by rw [hr]; rfl, g'⟩
theorem c_Meh (hL : Lay w) (hs : s.1 ≤ 889) (hp : PM w p kd i v) (q : TRm w s) : ok (f_M_exactHands N 133 i x w) (fun r u => Fr [177] [(133, 66)] w u ∧ r = (ehR kd i v x s).1 ∧ TRm u (ehR kd i v x s).2) := by
  have hx := lay_A hL
  unfold f_M_exactHands f_M_exactHands_b0
  simp only [ok_gd, true_and, hx]
  refine ok_call (c_body hL (by omega) q) ?_
  rintro - u ⟨f, g⟩
  have hx' := lay_A (f.lay hL)
  simp only [ok_gd, true_and, hx']
  refine ok_call (c_Mph (f.lay hL) (by simp only [trs]; omega) (hp.fr f) g) ?_
  rintro r z ⟨f', hr, g'⟩
  simp only [ok_bd]
  exact ok_ret.mpr ⟨f.tr f', by rw [hr]; rfl, g'⟩
theorem ti_1a : (1 : Int32).toInt = 1 := rfl
theorem c_Mhands (hL : Lay w) (hs : s.1 ≤ 880) (hp : PM w p kd i v) (q : TRm w s) : ok (f_M_handsAct N 133 i x w) (fun r u => Fr [177] [(133, 66)] w u ∧ r = (hnR kd i v x s).1 ∧ TRm u (hnR kd i v x s).2) := by
  have hx := lay_A hL
  have hi := lay_I hL
  have n1 := nat_of hp.1
  have g1 := ix_of (m := 4) hp.1 hp.2.1
  rw [n1] at g1
  have k := hp.2.2.1
  unfold f_M_handsAct f_M_handsAct_b0
  simp only [ok_gd, ok_rr, true_and, hx, hi, n1, g1, not_false_eq_true]
  refine ⟨_, rfl, ?_⟩
  simp only [ok_gd, ok_bd, true_and, hx, hi, n1, g1, not_false_eq_true]
  rw [ok_cd]
  refine ⟨fun c => ?_, fun c => ?_⟩ <;> rw [ti_eq, ti_1a, k] at c
  · have e : kd = 1 := by omega
    subst e
    refine ok_call (c_Meh hL (by omega) hp q) ?_
    rintro r z ⟨f', hr, g'⟩
    exact ok_ret.mpr ⟨f', hr, g'⟩
  rw [ok_cd]
  refine ⟨fun d => ?_, fun d => ?_⟩ <;> rw [ti_eq, ti_4a, k] at d
  · have e : kd = 4 := by omega
    subst e
    refine ok_call (c_body hL (by omega) q) ?_
    rintro - u ⟨f, g⟩
    have hx' := lay_A (f.lay hL)
    simp only [ok_gd, ok_bd, true_and, hx']
    refine ok_call (c_Meh (f.lay hL) (by simp only [trs]; omega) (hp.fr f) g) ?_
    rintro r z ⟨f', hr, g'⟩
    exact ok_ret.mpr ⟨f.tr f', hr, g'⟩
  rw [ok_cd]
  refine ⟨fun m => ?_, fun m => ?_⟩ <;> rw [ti_eq, ti_6a, k] at m
  · have e' : kd = 6 := by omega
    subst e'
    refine ok_call (c_body hL (by omega) q) ?_
    rintro - u ⟨f, g⟩
    have hx' := lay_A (f.lay hL)
    simp only [ok_gd, ok_bd, true_and, hx']
    refine ok_call (c_Mph (f.lay hL) (by simp only [trs]; omega) (hp.fr f) g) ?_
    rintro r z ⟨f', hr, g'⟩
    have hx2 := lay_A (f'.lay (f.lay hL))
    simp only [ok_gd, ok_bd, true_and, hx2]
    have hle : (phR 6 i v x (trs s 70)).2.1 ≤ (trs s 70).1 + 3 := phR_le
    have h1 : (trs s 70).1 = s.1 + 1 := rfl
    refine ok_call (c_Mpc (f'.lay (f.lay hL)) (by omega) g') ?_
    rintro r2 z2 ⟨f2, hr2, g2⟩
    exact ok_ret.mpr ⟨(f.tr f').tr f2, by rw [hr, hr2]; rfl, g2⟩
  · refine ok_call (c_Mph hL (by omega) hp q) ?_
    rintro r z ⟨f', hr, g'⟩
    have e : hnR kd i v x s = phR kd i v x s := by unfold hnR; rw [if_neg (by omega), if_neg (by omega), if_neg (by omega)]
    rw [e]
    exact ok_ret.mpr ⟨f', hr, g'⟩
end ACTN
