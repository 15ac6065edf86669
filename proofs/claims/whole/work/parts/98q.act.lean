/-! ===== acts: counts of the model =====  -/
section ACTM
variable {N p kd : Nat} {w u z : gW} {i v x : Int32} {s : Nat × (Nat → Int32)}
abbrev PM (w : gW) (p kd : Nat) (i v : Int32) : Prop := i.toInt = (p : Int) ∧ p < 4 ∧ (gI w 135 p).toInt = (kd : Int) ∧ kd < 7 ∧ gI w 136 p = v
theorem PM.fr (f : Fr [177] [(133, 66)] w u) (h : PM w p kd i v) : PM u p kd i v := by
  obtain ⟨h1, h2, h3, h4, h5⟩ := h
  exact ⟨h1, h2, by rw [f.i ⟨by decide, by simp⟩]; exact h3, h4, by rw [f.i ⟨by decide, by simp⟩]; exact h5⟩
theorem c_Mpc (hL : Lay w) (hs : s.1 ≤ 900) (q : TRm w s) : ok (f_M_payerCounts N 133 i x w) (fun r u => Fr [177] [(133, 66)] w u ∧ r = (pcR i x s).1 ∧ TRm u (pcR i x s).2) := by
  have hx := lay_A hL
  unfold f_M_payerCounts f_M_payerCounts_b0
  simp only [ok_gd, true_and, hx]
  refine ok_call (c_body hL hs q) ?_
  rintro - u ⟨f, g⟩
  simp only [ok_bd]
  exact ok_ret.mpr ⟨f, rfl, g⟩
theorem c_Mc40 (hL : Lay w) (hs : s.1 ≤ 899) (q : TRm w s) : ok (f_M_countsAct_b40 N 133 i x w) (fun r u => Fr [177] [(133, 66)] w u ∧ r = (pcR i (x * 3) (trs s 30)).1 ∧ TRm u (pcR i (x * 3) (trs s 30)).2) := by
  have hx := lay_A hL
  unfold f_M_countsAct_b40
  simp only [ok_gd, true_and, hx]
  refine ok_call (c_body hL (by omega) q) ?_
  rintro - u ⟨f, g⟩
  have hx' := lay_A (f.lay hL)
  simp only [ok_gd, ok_bd, true_and, hx']
  refine ok_call (c_Mpc (f.lay hL) (by simp only [trs]; omega) g) ?_
  rintro r z ⟨f', hr, g'⟩
  exact ok_ret.mpr ⟨f.tr f', hr, g'⟩
theorem ti_6a : (6 : Int32).toInt = 6 := rfl
theorem ti_5a : (5 : Int32).toInt = 5 := rfl
theorem ti_4a : (4 : Int32).toInt = 4 := rfl
theorem ti_2a : (2 : Int32).toInt = 2 := rfl
theorem c_Mcounts (hL : Lay w) (hs : s.1 ≤ 899) (hp : PM w p kd i v) (q : TRm w s) : ok (f_M_countsAct N 133 i x w) (fun r u => Fr [177] [(133, 66)] w u ∧ r = (cnR kd i v x s).1 ∧ TRm u (cnR kd i v x s).2) := by
  have hx := lay_A hL
  have hi := lay_I hL
  have n1 := nat_of hp.1
  have g1 := ix_of (m := 4) hp.1 hp.2.1
  rw [n1] at g1
  have k := hp.2.2.1
  unfold f_M_countsAct f_M_countsAct_b0
  simp only [ok_gd, ok_rr, true_and, hx, hi, n1, g1, not_false_eq_true]
  refine ⟨_, rfl, ?_⟩
  simp only [ok_gd, ok_bd, true_and, hx, hi, n1, g1, not_false_eq_true]
  rw [ok_cd]
  refine ⟨fun c => ?_, fun c => ?_⟩ <;> rw [ti_eq, ti_2a, k] at c
  · have e : kd = 2 := by omega
    subst e
    exact c_Mc40 hL hs q
  rw [ok_cd]
  refine ⟨fun d => ?_, fun d => ?_⟩ <;> rw [ti_eq, ti_4a, k] at d
  · have e : kd = 4 := by omega
    subst e
    refine ok_call (c_body hL (by omega) q) ?_
    rintro - u ⟨f, g⟩
    have hx' := lay_A (f.lay hL)
    simp only [ok_gd, ok_bd, true_and, hx']
    refine ok_call (c_Mpc (f.lay hL) (by simp only [trs]; omega) g) ?_
    rintro r z ⟨f', hr, g'⟩
    exact ok_ret.mpr ⟨f.tr f', by rw [hr]; rfl, g'⟩
  rw [ok_cd]
  refine ⟨fun e => ?_, fun e => ?_⟩ <;> rw [ti_eq, ti_5a, k] at e
  · have e' : kd = 5 := by omega
    subst e'
    exact c_Mc40 hL hs q
  rw [ok_cd]
  refine ⟨fun m => ?_, fun m => ?_⟩ <;> rw [ti_eq, ti_6a, k] at m
  · have e' : kd = 6 := by omega
    subst e'
    refine ok_call (c_body hL (by omega) q) ?_
    rintro - u ⟨f, g⟩
    have hx' := lay_A (f.lay hL)
    simp only [ok_gd, ok_bd, true_and, hx']
    refine ok_call (c_Mpc (f.lay hL) (by simp only [trs]; omega) g) ?_
    rintro r z ⟨f', hr, g'⟩
    have hi' := lay_I (f'.lay (f.lay hL))
    have e136 := ((hp.fr f).fr f').2.2.2.2
    simp only [ok_gd, ok_bd, ok_rr1, ok_nr0, ok_nr1, ok_ret, true_and, and_true, not_false_eq_true, sh_sI, sh_sR, sh_sL, gR_sI, gR_sL, gI_sR, gI_sL, sh_cI, gR_cI, hi', n1, g1, e136]
    exact ⟨f.tr f', by rw [hr]; rfl, g'⟩
  · unfold f_M_countsAct_b89
    simp only [ok_gd, true_and, hx]
    refine ok_call (c_Mpc hL (by omega) q) ?_
    rintro r z ⟨f', hr, g'⟩
    have e : cnR kd i v x s = pcR i x s := by unfold cnR; rw [if_neg (by omega), if_neg (by omega), if_neg (by omega)]
    rw [e]
    exact ok_ret.mpr ⟨f', hr, g'⟩
end ACTM
