/-! ===== a payment in the model: weight, coins, how bad a hand is =====  -/
section MW
variable {N p kd v pd b s : Nat} {w : gW} {pu ti ro : Nat → Int} {L : List Cl} {x : List Nat} {a1 a2 : Int32} {price : Int}
theorem c_Mcoins (hN : 1000 ≤ N) (hc : MP w p kd v pd b pu ti ro L) (h1 : a1.toInt = (p : Int)) :
    ok (f_M_coins N 133 a1 w) (fun r u => u = w ∧ r.toInt = pu 0 + pu 1 + pu 2 + pu 3 + pu 4 + pu 5) := by
  obtain ⟨hL, -, -, -, hp, -, q1, -⟩ := hc
  have hm := lay_M hL
  obtain ⟨S, S0, S1, S6, SB⟩ := sum6 (f := pu)
  unfold f_M_coins f_M_coins_b0 f_M_coins_l4
  rw [← S6]
  refine itr_up (fun k q => q.1 = 133 ∧ q.2.1 = a1 ∧ q.2.2.2.2 = w ∧ q.2.2.2.1.toInt = (k : Int) ∧ q.2.2.1.toInt = S k) 6 ?_ ?_ N 0 _ (by omega) ?_ (by omega)
  · rintro rec k ⟨b0, b1, a2, a3, u⟩ hk ⟨e0, e1, e2, e3, e4⟩ IH
    simp only at e0 e1 e2 e3 e4
    subst e0 e1 e2
    have B := SB 99 k (fun j hj => (q1 j (by omega)).2)
    have q := q1 k hk
    have e6 := ti_6p h1 hp e3 (by omega)
    have n6 := nat_of e6
    have g6 := ix_of (m := 24) e6 (by omega)
    rw [n6] at g6
    clear e6
    have k9 : k < 2147483647 := by omega
    have t1 : (a2 + gI u 139 (6 * p + k)).toInt = S (k + 1) := by rw [S1, ti_add] <;> rw [q.1, e4] <;> omega
    refine ok_cdf (by rw [ti_le, e3, ti_6]; omega) ?_
    simp only [ok_gd, ok_bd, ok_rr1, ok_nr0, ok_nr1, ok_ret, true_and, and_true, not_false_eq_true, sh_sI, sh_sR, sh_sL, gR_sI, gR_sL, gI_sR, gI_sL, sh_cI, gR_cI, hm, n6, g6]
    refine IH _ ?_
    exact ⟨rfl, rfl, rfl, ti_p1 e3 k9, t1⟩
  · rintro rec ⟨b0, b1, a2, a3, u⟩ ⟨e0, e1, e2, e3, e4⟩
    simp only at e0 e1 e2 e3 e4
    subst e0 e1 e2
    refine ok_cdt (by rw [ti_le, e3, ti_6]; decide) ?_
    exact ok_ret.mpr ⟨rfl, e4⟩
  · exact ⟨rfl, rfl, rfl, rfl, by rw [S0]; rfl⟩
theorem c_Mweight (hN : 1000 ≤ N) (hc : MP w p kd v pd b pu ti ro L) (h1 : a1.toInt = (p : Int)) :
    ok (f_M_weight N 133 a1 w) (fun r u => Fr [150] [] w u ∧ r.toInt = wgt L pu) := by
  have hc0 := hc
  obtain ⟨hL, hv, -, -, hp, -, q1, -⟩ := hc
  obtain ⟨hl, -, hwf, -⟩ := hv
  obtain ⟨S, S0, S1, S6, SB⟩ := sum6 (f := fun s => pu s * heftF L s)
  have key : ∀ s, s < 6 → 0 ≤ pu s * heftF L s ∧ pu s * heftF L s ≤ 99 * 990 := fun s h => mul_in (q1 s h).2 (heftF_in hwf hl h)
  unfold f_M_weight f_M_weight_b0 f_M_weight_l4 wgt
  rw [← S6]
  refine itr_up (fun k q => q.1 = 133 ∧ q.2.1 = a1 ∧ Fr [150] [] w q.2.2.2.2 ∧ q.2.2.2.1.toInt = (k : Int) ∧ q.2.2.1.toInt = S k) 6 ?_ ?_ N 0 _ (by omega) ?_ (by omega)
  · rintro rec k ⟨b0, b1, a2, a3, u⟩ hk ⟨e0, e1, f, e3, e4⟩ IH
    simp only at e0 e1 f e3 e4
    subst e0 e1
    obtain ⟨hLu, hvu, hwru, hpdu, -, -, q1u, -⟩ := hc0.sc (f.up (by simp) (by simp))
    have hm := lay_M hLu
    have B := SB (99 * 990) k (fun j hj => key j (by omega))
    have B1 := key k hk
    have q := q1u k hk
    have e6 := ti_6p h1 hp e3 (by omega)
    have n6 := nat_of e6
    have g6 := ix_of (m := 24) e6 (by omega)
    rw [n6] at g6
    clear e6
    have k9 : k < 2147483647 := by omega
    refine ok_cdf (by rw [ti_le, e3, ti_6]; omega) ?_
    simp only [ok_gd, ok_bd, ok_rr1, ok_nr0, ok_nr1, ok_ret, true_and, and_true, not_false_eq_true, sh_sI, sh_sR, sh_sL, gR_sI, gR_sL, gI_sR, gI_sL, sh_cI, gR_cI, hm, n6, g6]
    refine ok_call (c_heft hN hLu hvu hwru hpdu e3 hk) ?_
    rintro r u' ⟨f', hr⟩
    have m1 : (gI u 139 (6 * p + k) * r).toInt = pu k * heftF L k := by rw [ti_mul] <;> rw [q.1, hr] <;> omega
    have t1 : (a2 + gI u 139 (6 * p + k) * r).toInt = S (k + 1) := by rw [S1, ti_add] <;> rw [m1, e4] <;> omega
    simp only [ok_bd]
    refine IH _ ?_
    exact ⟨rfl, rfl, f.tr f', ti_p1 e3 k9, t1⟩
  · rintro rec ⟨b0, b1, a2, a3, u⟩ ⟨e0, e1, f, e3, e4⟩
    simp only at e0 e1 f e3 e4
    subst e0 e1
    refine ok_cdt (by rw [ti_le, e3, ti_6]; decide) ?_
    exact ok_ret.mpr ⟨f, e4⟩
  · exact ⟨rfl, rfl, Fr.rf, rfl, by rw [S0]; rfl⟩
theorem c_MweightBehind {bb : Nat → Int} (hN : 1000 ≤ N) (hc : MP w p kd v pd b pu ti ro L) (hs : MH w x) (hx : h2 x) (h1 : a1.toInt = (p : Int)) (hb : ∀ s, s < 6 → (gI w 153 s).toInt = bb s ∧ 0 ≤ bb s ∧ bb s ≤ 999) (hh : ∀ s, s < 6 → (gI w 154 s).toInt = heftF L s) (hn : ∀ s, s < 6 → 0 ≤ pu s - gx x s) :
    ok (f_M_weightBehind N 133 a1 w) (fun r u => u = w ∧ r.toInt = wgt L (fun s => pu s - gx x s + bb s)) := by
  obtain ⟨hL, hv, -, -, hp, -, q1, -⟩ := hc
  obtain ⟨hl, -, hwf, -⟩ := hv
  have hm := lay_M hL
  obtain ⟨S, S0, S1, S6, SB⟩ := sum6 (f := fun s => (pu s - gx x s + bb s) * heftF L s)
  have key : ∀ s, s < 6 → 0 ≤ (pu s - gx x s + bb s) * heftF L s ∧ (pu s - gx x s + bb s) * heftF L s ≤ 1098 * 990 := fun s h => by
    have h1 := heftF_in (s := s) hwf hl h
    have h2 := (hb s h).2
    have h3 := hn s h
    have h4 := (q1 s h).2
    have h5 := hx.g s
    exact mul_in ⟨by omega, by omega⟩ h1
  unfold f_M_weightBehind f_M_weightBehind_b0 f_M_weightBehind_l4 wgt
  rw [← S6]
  refine itr_up (fun k q => q.1 = 133 ∧ q.2.1 = a1 ∧ q.2.2.2.2 = w ∧ q.2.2.2.1.toInt = (k : Int) ∧ q.2.2.1.toInt = S k) 6 ?_ ?_ N 0 _ (by omega) ?_ (by omega)
  · rintro rec k ⟨b0, b1, a2, a3, u⟩ hk ⟨e0, e1, e2, e3, e4⟩ IH
    simp only at e0 e1 e2 e3 e4
    subst e0 e1 e2
    have B := SB (1098 * 990) k (fun j hj => key j (by omega))
    have B1 := key k hk
    have q := q1 k hk
    have e6 := ti_6p h1 hp e3 (by omega)
    have n6 := nat_of e6
    have g6 := ix_of (m := 24) e6 (by omega)
    rw [n6] at g6
    clear e6
    have n3 := nat_of e3
    have g3 := ix_of (m := 6) e3 hk
    rw [n3] at g3
    have k9 : k < 2147483647 := by omega
    have v2 := hs.2 k hk
    have hbk := hb k hk
    have gk := hx.g k
    have t1 : (gI u 139 (6 * p + k) - gI u 152 k).toInt = pu k - gx x k := by rw [ti_sub] <;> rw [q.1, v2] <;> omega
    have t2 : (gI u 139 (6 * p + k) - gI u 152 k + gI u 153 k).toInt = pu k - gx x k + bb k := by rw [ti_add] <;> rw [t1, hbk.1] <;> omega
    clear t1
    have t3 : ((gI u 139 (6 * p + k) - gI u 152 k + gI u 153 k) * gI u 154 k).toInt = (pu k - gx x k + bb k) * heftF L k := by rw [ti_mul] <;> rw [t2, hh k hk] <;> omega
    clear t2
    have t4 : (a2 + (gI u 139 (6 * p + k) - gI u 152 k + gI u 153 k) * gI u 154 k).toInt = S (k + 1) := by rw [S1, ti_add] <;> rw [t3, e4] <;> omega
    clear t3
    refine ok_cdf (by rw [ti_le, e3, ti_6]; omega) ?_
    simp only [ok_gd, ok_bd, ok_rr1, ok_nr0, ok_nr1, ok_ret, true_and, and_true, not_false_eq_true, sh_sI, sh_sR, sh_sL, gR_sI, gR_sL, gI_sR, gI_sL, sh_cI, gR_cI, hm, n6, g6, n3, g3]
    refine IH _ ?_
    exact ⟨rfl, rfl, rfl, ti_p1 e3 k9, t4⟩
  · rintro rec ⟨b0, b1, a2, a3, u⟩ ⟨e0, e1, e2, e3, e4⟩
    simp only at e0 e1 e2 e3 e4
    subst e0 e1 e2
    refine ok_cdt (by rw [ti_le, e3, ti_6]; decide) ?_
    exact ok_ret.mpr ⟨rfl, e4⟩
  · exact ⟨rfl, rfl, rfl, rfl, by rw [S0]; rfl⟩
theorem c_McoinsBehind {bb : Nat → Int} (hN : 1000 ≤ N) (hc : MP w p kd v pd b pu ti ro L) (hms : MS w x) (hx : h2 x) (h1 : a1.toInt = (p : Int)) (hb : ∀ s, s < 6 → (gI w 153 s).toInt = bb s ∧ 0 ≤ bb s ∧ bb s ≤ 999) :
    ok (f_M_coinsBehind N 133 a1 w) (fun r u => u = w ∧ r.toInt = pu 0 + pu 1 + pu 2 + pu 3 + pu 4 + pu 5 - hcnt x + (bb 0 + bb 1 + bb 2 + bb 3 + bb 4 + bb 5)) := by
  have hc0 := hc
  obtain ⟨hL, hv, -, -, hp, -, q1, -⟩ := hc
  have hm := lay_M hL
  have hsm := hx.sum
  have r0 := (q1 0 (by omega)).2; have r1 := (q1 1 (by omega)).2; have r2 := (q1 2 (by omega)).2; have r3 := (q1 3 (by omega)).2; have r4 := (q1 4 (by omega)).2; have r5 := (q1 5 (by omega)).2
  obtain ⟨S, S0, S1, S6, SB⟩ := sum6 (f := bb)
  unfold f_M_coinsBehind f_M_coinsBehind_b0
  simp only [ok_gd, ok_bd, ok_rr1, ok_nr0, ok_nr1, ok_ret, true_and, and_true, not_false_eq_true, sh_sI, sh_sR, sh_sL, gR_sI, gR_sL, gI_sR, gI_sL, sh_cI, gR_cI, hm]
  refine ok_call (c_Mcoins hN hc0 h1) ?_
  rintro r u ⟨rfl, hr⟩
  simp only [ok_gd, ok_bd, ok_rr1, ok_nr0, ok_nr1, ok_ret, true_and, and_true, not_false_eq_true, sh_sI, sh_sR, sh_sL, gR_sI, gR_sL, gI_sR, gI_sL, sh_cI, gR_cI, hm]
  have t0 : (r - gI u 133 33).toInt = pu 0 + pu 1 + pu 2 + pu 3 + pu 4 + pu 5 - hcnt x + S 0 := by rw [S0, ti_sub] <;> rw [hr, hms.2] <;> omega
  rw [← S6]
  generalize r - gI u 133 33 = r2 at t0
  unfold f_M_coinsBehind_l13
  refine itr_up (fun k q => q.1 = 133 ∧ q.2.2.2 = u ∧ q.2.2.1.toInt = (k : Int) ∧ q.2.1.toInt = pu 0 + pu 1 + pu 2 + pu 3 + pu 4 + pu 5 - hcnt x + S k) 6 ?_ ?_ N 0 _ (by omega) ?_ (by omega)
  · rintro rec k ⟨b0, a2, a3, u'⟩ hk ⟨e0, e1, e2, e3⟩ IH
    simp only at e0 e1 e2 e3
    subst e0 e1
    have B := SB 999 k (fun j hj => (hb j (by omega)).2)
    have q := hb k hk
    have n2 := nat_of e2
    have g2 := ix_of (m := 6) e2 hk
    rw [n2] at g2
    have k9 : k < 2147483647 := by omega
    have t1 : (a2 + gI u' 153 k).toInt = pu 0 + pu 1 + pu 2 + pu 3 + pu 4 + pu 5 - hcnt x + S (k + 1) := by rw [S1, ti_add] <;> rw [q.1, e3] <;> omega
    refine ok_cdf (by rw [ti_le, e2, ti_6]; omega) ?_
    simp only [ok_gd, ok_bd, ok_rr1, ok_nr0, ok_nr1, ok_ret, true_and, and_true, not_false_eq_true, sh_sI, sh_sR, sh_sL, gR_sI, gR_sL, gI_sR, gI_sL, sh_cI, gR_cI, hm, n2, g2]
    refine IH _ ?_
    exact ⟨rfl, rfl, ti_p1 e2 k9, t1⟩
  · rintro rec ⟨b0, a2, a3, u'⟩ ⟨e0, e1, e2, e3⟩
    simp only at e0 e1 e2 e3
    subst e0 e1
    refine ok_cdt (by rw [ti_le, e2, ti_6]; decide) ?_
    exact ok_ret.mpr ⟨rfl, e3⟩
  · exact ⟨rfl, rfl, rfl, t0⟩
def brd (bar : Int) (x : List Nat) : Prop := 0 ≤ bar ∧ 0 < gx x bar.toNat
theorem c_isBarred (hc : MP w p kd v pd b pu ti ro L) (hs : MH w x) (h1 : a1.toInt = (p : Int)) :
    ok (f_M_isBarred N 133 a1 w) (fun r u => u = w ∧ ((r.toInt = 1 ∧ brd (barF kd v pd ro) x) ∨ (r.toInt = 0 ∧ ¬ brd (barF kd v pd ro) x))) := by
  obtain ⟨hL, -, -, -, hp, ⟨g1, g2, g3, g4, g5⟩, -, -, q3⟩ := hc
  have hm := lay_M hL
  have n1 := nat_of h1
  have i1 := ix_of (m := 4) h1 hp
  rw [n1] at i1
  unfold f_M_isBarred f_M_isBarred_b0
  simp only [ok_gd, ok_bd, ok_rr1, ok_nr0, ok_nr1, ok_ret, true_and, and_true, not_false_eq_true, sh_sI, sh_sR, sh_sL, gR_sI, gR_sL, gI_sR, gI_sL, sh_cI, gR_cI, hm, n1, i1]
  rw [ok_cd]
  refine ⟨fun c => ?_, fun c => ?_⟩
  · rw [ti_eq, g1, ti_3] at c
    have c' : kd = 3 := by omega
    subst c'
    have m := modn g3 6 (n := 6) rfl (by omega)
    have hm6 : v % 6 < 6 := Nat.mod_lt _ (by omega)
    generalize hxm : (gI w 136 p - gI w 136 p / 6 * 6) = xm at m
    have n2 := nat_of m
    have i2 := ix_of (m := 6) m hm6
    rw [n2] at i2
    have e := hs.2 _ hm6
    have eb : barF 3 v pd ro = ((v % 6 : Nat) : Int) := rfl
    simp only [ok_gd, ok_bd, ok_rr1, ok_nr0, ok_nr1, ok_ret, true_and, and_true, not_false_eq_true, sh_sI, sh_sR, sh_sL, gR_sI, gR_sL, gI_sR, gI_sL, sh_cI, gR_cI, hm, n1, i1, hxm, n2, i2]
    rw [ok_cd]
    refine ⟨fun d => ?_, fun d => ?_⟩
    · rw [ti_le, e, ti_0] at d
      refine ok_ret.mpr ⟨rfl, Or.inr ⟨ti_0, ?_⟩⟩
      rw [eb]; unfold brd; rw [Int.toNat_natCast]; omega
    · rw [ti_le, e, ti_0] at d
      refine ok_ret.mpr ⟨rfl, Or.inl ⟨ti_1, ?_⟩⟩
      rw [eb]; unfold brd; rw [Int.toNat_natCast]; omega
  · rw [ti_eq, g1, ti_3] at c
    rw [ok_bd, ok_cd]
    refine ⟨fun d => ?_, fun d => ?_⟩
    · rw [ti_eq, g1, ti_6] at d
      have d' : kd = 6 := by omega
      subst d'
      have m := modn g5 4 (n := 4) rfl (by omega)
      have hm4 : pd % 4 < 4 := Nat.mod_lt _ (by omega)
      generalize hxm : (gI w 137 p - gI w 137 p / 4 * 4) = xm at m
      have m4 := ti_4p h1 hp m (by omega)
      generalize hxn : 4 * a1 + xm = xn at m4
      have n2 := nat_of m4
      have i2 := ix_of (m := 16) m4 (by omega)
      rw [n2] at i2
      have q := q3 _ hm4
      obtain ⟨t, ht⟩ : ∃ t : Nat, ro (pd % 4) = (t : Int) := ⟨(ro (pd % 4)).toNat, by omega⟩
      have e3 : (gI w 138 (4 * p + pd % 4)).toInt = (t : Int) := by rw [q.1, ht]
      have n3 := nat_of e3
      have i3 := ix_of (m := 6) e3 (by omega)
      rw [n3] at i3
      have e := hs.2 t (by omega)
      have eb : barF 6 v pd ro = (t : Int) := by rw [← ht]; rfl
      simp only [ok_gd, ok_bd, ok_rr1, ok_nr0, ok_nr1, ok_ret, true_and, and_true, not_false_eq_true, sh_sI, sh_sR, sh_sL, gR_sI, gR_sL, gI_sR, gI_sL, sh_cI, gR_cI, hm, n1, i1, hxm, hxn, n2, i2, n3, i3]
      rw [ok_cd]
      refine ⟨fun d => ?_, fun d => ?_⟩
      · rw [ti_le, e, ti_0] at d
        refine ok_ret.mpr ⟨rfl, Or.inr ⟨ti_0, ?_⟩⟩
        rw [eb]; unfold brd; rw [Int.toNat_natCast]; omega
      · rw [ti_le, e, ti_0] at d
        refine ok_ret.mpr ⟨rfl, Or.inl ⟨ti_1, ?_⟩⟩
        rw [eb]; unfold brd; rw [Int.toNat_natCast]; omega
    · rw [ti_eq, g1, ti_6] at d
      refine ok_ret.mpr ⟨rfl, Or.inr ⟨ti_0, ?_⟩⟩
      unfold brd barF
      rw [if_neg (by omega), if_neg (by omega)]; omega
def bdF (kd : Nat) (wg : List Nat → Int) (x : List Nat) : Int := if kd = 2 then 1000 * hcnt x + hsum x else if kd = 4 then wg x else if kd = 5 then 1000 * hcnt x - hsum x else 100 * hsum x + hcnt x
theorem c_badness (hN : 1000 ≤ N) (hc : MP w p kd v pd b pu ti ro L) (hs : MH w x) (hms : MS w x) (hx : h2 x) (h1 : a1.toInt = (p : Int)) (hb : ∀ s, s < 6 → (gI w 153 s).toInt = bx ti x price s ∧ 0 ≤ bx ti x price s ∧ bx ti x price s ≤ 999) (hh : ∀ s, s < 6 → (gI w 154 s).toInt = heftF L s) (hn : ∀ s, s < 6 → 0 ≤ pu s - gx x s) :
    ok (f_M_badness N 133 a1 w) (fun r u => u = w ∧ r.toInt = bdF kd (wgF L pu ti price) x) := by
  have hc0 := hc
  obtain ⟨hL, -, -, -, hp, ⟨g1, g2, g3, g4, g5⟩, -, -, q3⟩ := hc
  have hm := lay_M hL
  have n1 := nat_of h1
  have i1 := ix_of (m := 4) h1 hp
  rw [n1] at i1
  have hsm := hx.sum
  obtain ⟨s2, s3⟩ := hms
  unfold f_M_badness f_M_badness_b0
  simp only [ok_gd, ok_bd, ok_rr1, ok_nr0, ok_nr1, ok_ret, true_and, and_true, not_false_eq_true, sh_sI, sh_sR, sh_sL, gR_sI, gR_sL, gI_sR, gI_sL, sh_cI, gR_cI, hm, n1, i1]
  rw [ok_cd]
  refine ⟨fun c => ?_, fun c => ?_⟩
  · rw [ti_eq, g1, ti_2] at c
    have t1 : (1000 * gI w 133 33).toInt = 1000 * hcnt x := by rw [ti_mul] <;> rw [s3, show (1000 : Int32).toInt = 1000 from rfl] <;> omega
    have t2 : (1000 * gI w 133 33 + gI w 133 32).toInt = 1000 * hcnt x + hsum x := by rw [ti_add] <;> rw [t1, s2] <;> omega
    clear t1
    simp only [ok_gd, ok_bd, ok_rr1, ok_nr0, ok_nr1, ok_ret, true_and, and_true, not_false_eq_true, sh_sI, sh_sR, sh_sL, gR_sI, gR_sL, gI_sR, gI_sL, sh_cI, gR_cI]
    rw [t2]; unfold bdF; rw [if_pos (by omega)]
  · rw [ti_eq, g1, ti_2] at c
    rw [ok_cd]
    refine ⟨fun d => ?_, fun d => ?_⟩
    · rw [ti_eq, g1, ti_4] at d
      refine ok_call (c_MweightBehind hN hc0 hs hx h1 hb hh hn) ?_
      rintro r u ⟨rfl, hr⟩
      refine ok_ret.mpr ⟨rfl, ?_⟩
      rw [hr]; unfold bdF; rw [if_neg (by omega), if_pos (by omega)]; rfl
    · rw [ti_eq, g1, ti_4] at d
      rw [ok_cd]
      refine ⟨fun g => ?_, fun g => ?_⟩
      · rw [ti_eq, g1, ti_5] at g
        have t1 : (1000 * gI w 133 33).toInt = 1000 * hcnt x := by rw [ti_mul] <;> rw [s3, show (1000 : Int32).toInt = 1000 from rfl] <;> omega
        have t2 : (1000 * gI w 133 33 - gI w 133 32).toInt = 1000 * hcnt x - hsum x := by rw [ti_sub] <;> rw [t1, s2] <;> omega
        clear t1
        simp only [ok_gd, ok_bd, ok_rr1, ok_nr0, ok_nr1, ok_ret, true_and, and_true, not_false_eq_true, sh_sI, sh_sR, sh_sL, gR_sI, gR_sL, gI_sR, gI_sL, sh_cI, gR_cI]
        rw [t2]; unfold bdF; rw [if_neg (by omega), if_neg (by omega), if_pos (by omega)]
      · rw [ti_eq, g1, ti_5] at g
        have t1 : (100 * gI w 133 32).toInt = 100 * hsum x := by rw [ti_mul] <;> rw [s2, ti_100] <;> omega
        have t2 : (100 * gI w 133 32 + gI w 133 33).toInt = 100 * hsum x + hcnt x := by rw [ti_add] <;> rw [t1, s3] <;> omega
        clear t1
        unfold f_M_badness_b70
        simp only [ok_gd, ok_bd, ok_rr1, ok_nr0, ok_nr1, ok_ret, true_and, and_true, not_false_eq_true, sh_sI, sh_sR, sh_sL, gR_sI, gR_sL, gI_sR, gI_sL, sh_cI, gR_cI, hm]
        rw [t2]; unfold bdF; rw [if_neg (by omega), if_neg (by omega), if_neg (by omega)]
theorem c_layBest {bb : Nat → Int} (hN : 1000 ≤ N) (hL : Lay w) (hs : MH w x) (hb : ∀ s, s < 6 → (gI w 153 s).toInt = bb s) :
    ok (f_M_layBest N 133 w) (fun _ u => Fr [155, 156] [] w u ∧ ∀ s, s < 6 → (gI u 155 s).toInt = gx x s ∧ (gI u 156 s).toInt = bb s) := by
  unfold f_M_layBest f_M_layBest_b0 f_M_layBest_l2
  refine itr_up (fun k q => q.1 = 133 ∧ q.2.1.toInt = (k : Int) ∧ Fr [155, 156] [] w q.2.2 ∧ ∀ s, s < k → (gI q.2.2 155 s).toInt = gx x s ∧ (gI q.2.2 156 s).toInt = bb s) 6 ?_ ?_ N 0 _ (by omega) ?_ (by omega)
  · rintro rec k ⟨b0, a1, u⟩ hk ⟨e0, e1, f, e4⟩ IH
    simp only at e0 e1 f e4
    subst e0
    have hm := lay_M (f.lay hL)
    have n1 := nat_of e1
    have g1 := ix_of (m := 6) e1 hk
    rw [n1] at g1
    have k9 : k < 2147483647 := by omega
    have v2 : (gI u 152 k).toInt = gx x k := by rw [f.i ⟨by decide, by simp⟩]; exact hs.2 k hk
    have v3 : (gI u 153 k).toInt = bb k := by rw [f.i ⟨by decide, by simp⟩]; exact hb k hk
    refine ok_cdf (by rw [ti_le, e1, ti_6]; omega) ?_
    simp (disch := decide) only [ok_gd, ok_bd, ok_rr1, ok_nr0, ok_nr1, ok_ret, true_and, and_true, not_false_eq_true, sh_sI, sh_sR, sh_sL, gR_sI, gR_sL, gI_sR, gI_sL, sh_cI, gR_cI, gI_ne, hm, n1, g1]
    refine IH _ ?_
    refine ⟨rfl, ti_p1 e1 k9, Fr_sI (Fr_sI f (by simp)) (by simp), fun s hs => ⟨?_, ?_⟩⟩
    · simp only; rw [gI_ne (by decide), gI_sI]
      by_cases e : s = k
      · rw [if_pos ⟨rfl, e⟩, e]; exact v2
      · rw [if_neg (fun q => e q.2)]; exact (e4 s (by omega)).1
    · simp only; rw [gI_sI]
      by_cases e : s = k
      · rw [if_pos ⟨rfl, e⟩, e]; exact v3
      · rw [if_neg (fun q => e q.2), gI_ne (by decide)]; exact (e4 s (by omega)).2
  · rintro rec ⟨b0, a1, u⟩ ⟨e0, e1, f, e4⟩
    simp only at e0 e1 f e4
    subst e0
    refine ok_cdt (by rw [ti_le, e1, ti_6]; decide) ?_
    exact ok_ret.mpr ⟨f, e4⟩
  · exact ⟨rfl, rfl, Fr.rf, fun s hs => absurd hs (by omega)⟩
end MW
