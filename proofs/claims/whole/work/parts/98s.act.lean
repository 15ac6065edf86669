/-! ===== acts: tells of the model =====  -/
section ACTO
variable {N p kd : Nat} {w u z : gW} {i v x : Int32} {s : Nat × (Nat → Int32)}
theorem c_Mpt (hL : Lay w) (hs : s.1 ≤ 870) (hp : PM w p kd i v) (q : TRm w s) : ok (f_M_payerTells N 133 i x w) (fun r u => Fr [177] [(133, 66)] w u ∧ r = (ptR kd i v x s).1 ∧ TRm u (ptR kd i v x s).2) := by
  have hx := lay_A hL
  unfold f_M_payerTells f_M_payerTells_b0
  simp only [ok_gd, true_and, hx]
  refine ok_call (c_body hL (by omega) q) ?_
  rintro - u ⟨f, g⟩
  have hx' := lay_A (f.lay hL)
  simp only [ok_gd, true_and, hx']
  refine ok_call (c_Mhands (f.lay hL) (by simp only [trs]; omega) (hp.fr f) g) ?_
  rintro r z ⟨f', hr, g'⟩
  simp only [ok_bd]
  exact ok_ret.mpr ⟨f.tr f', by rw [hr]; rfl, g'⟩
theorem c_Mt36 (hL : Lay w) (hs : s.1 ≤ 850) (hp : PM w p kd i v) (q : TRm w s) : ok (f_M_tellsAct_b36 N 133 i x w) (fun r u => Fr [177] [(133, 66)] w u ∧ r = (ktR kd i v x s).1 ∧ TRm u (ktR kd i v x s).2) := by
  have hx := lay_A hL
  unfold f_M_tellsAct_b36
  simp only [ok_gd, true_and, hx]
  refine ok_call (c_body hL (by omega) q) ?_
  rintro - u ⟨f, g⟩
  have hx' := lay_A (f.lay hL)
  simp only [ok_gd, true_and, hx']
  refine ok_call (c_Mpt (f.lay hL) (by simp only [trs]; omega) (hp.fr f) g) ?_
  rintro r z ⟨f', hr, g'⟩
  have hx2 := lay_A (f'.lay (f.lay hL))
  simp only [ok_gd, true_and, hx2]
  have hle : (ptR kd i v x (trs s 40)).2.1 ≤ (trs s 40).1 + 6 := ptR_le
  have h1 : (trs s 40).1 = s.1 + 1 := rfl
  refine ok_call (c_Mhands (f'.lay (f.lay hL)) (by omega) ((hp.fr f).fr f') g') ?_
  rintro r2 z2 ⟨f2, hr2, g2⟩
  simp only [ok_bd]
  exact ok_ret.mpr ⟨(f.tr f').tr f2, by rw [hr, hr2]; rfl, g2⟩
theorem ti_3a : (3 : Int32).toInt = 3 := rfl
theorem c_Mtells (hL : Lay w) (hs : s.1 ≤ 850) (hp : PM w p kd i v) (q : TRm w s) : ok (f_M_tellsAct N 133 i x w) (fun r u => Fr [177] [(133, 66)] w u ∧ r = (tlR kd i v x s).1 ∧ TRm u (tlR kd i v x s).2) := by
  have hx := lay_A hL
  have hi := lay_I hL
  have n1 := nat_of hp.1
  have g1 := ix_of (m := 4) hp.1 hp.2.1
  rw [n1] at g1
  have k := hp.2.2.1
  unfold f_M_tellsAct f_M_tellsAct_b0
  simp only [ok_gd, ok_rr, true_and, hx, hi, n1, g1, not_false_eq_true]
  refine ⟨_, rfl, ?_⟩
  simp only [ok_gd, ok_bd, true_and, hx, hi, n1, g1, not_false_eq_true]
  rw [ok_cd]
  refine ⟨fun c => ?_, fun c => ?_⟩ <;> rw [ti_eq, ti_3a, k] at c
  · have e : kd = 3 := by omega
    subst e
    exact c_Mt36 hL hs hp q
  rw [ok_cd]
  refine ⟨fun d => ?_, fun d => ?_⟩ <;> rw [ti_eq, ti_5a, k] at d
  · have e : kd = 5 := by omega
    subst e
    refine ok_call (c_body hL (by omega) q) ?_
    rintro - u ⟨f, g⟩
    have hx' := lay_A (f.lay hL)
    simp only [ok_gd, ok_bd, true_and, hx']
    refine ok_call (c_Mpt (f.lay hL) (by simp only [trs]; omega) (hp.fr f) g) ?_
    rintro r z ⟨f', hr, g'⟩
    exact ok_ret.mpr ⟨f.tr f', hr, g'⟩
  rw [ok_cd]
  refine ⟨fun m => ?_, fun m => ?_⟩ <;> rw [ti_eq, ti_6a, k] at m
  · have e' : kd = 6 := by omega
    subst e'
    exact c_Mt36 hL hs hp q
  · unfold f_M_tellsAct_b73
    simp only [ok_gd, true_and, hx]
    refine ok_call (c_Mpt hL (by omega) hp q) ?_
    rintro r z ⟨f', hr, g'⟩
    have e : tlR kd i v x s = ptR kd i v x s := by unfold tlR; rw [if_neg (by omega), if_neg (by omega)]
    rw [e]
    exact ok_ret.mpr ⟨f', hr, g'⟩
end ACTO
