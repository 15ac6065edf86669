/-! ===== would =====  -/
section WOULD
variable {N c tp b p : Nat} {w u z : gW} {kd v ob : Nat → Nat} {ro : Nat → Nat → Int} {L : List Cl} {A : PS} {a1 a2 a3 : Int32}
def knW (q : Int) : Prop := (0 ≤ q ∧ q ≤ 2) ∨ (10 ≤ q ∧ q < 16) ∨ (20 ≤ q ∧ q < 26)
/-- what one would answer of a payment -/
noncomputable def woR (L : List Cl) (kd v : Nat → Nat) (ro : Nat → Nat → Int) (A : PS) (p : Nat) (n q : Int) : Int := match cS L kd v ro A p n with
  | none => -5
  | some y => if 10 ≤ q ∧ q < 16 then gx y (q - 10).toNat else if 20 ≤ q ∧ q < 26 then bx A.2.1 y n (q - 20).toNat else if q = 0 then hsum y else if q = 1 then cnS ((nS A p n y).1 p) else wgt L ((nS A p n y).1 p)
theorem woR_n {n q : Int} (h : cS L kd v ro A p n = none) : woR L kd v ro A p n q = -5 := by unfold woR; rw [h]
theorem woR_s {n q : Int} {y : List Nat} (h : cS L kd v ro A p n = some y) : woR L kd v ro A p n q = if 10 ≤ q ∧ q < 16 then gx y (q - 10).toNat else if 20 ≤ q ∧ q < 26 then bx A.2.1 y n (q - 20).toNat else if q = 0 then hsum y else if q = 1 then cnS ((nS A p n y).1 p) else wgt L ((nS A p n y).1 p) := by unfold woR; rw [h]
set_option maxHeartbeats 1000000 in
theorem c_Mwould (hN : 1000 ≤ N) (hxz : CX z c tp b kd v ob ro L A) (r : Int32) (h1 : (0 ≤ a1.toInt ∧ a1.toInt < (c : Int)) → knW a3.toInt → ¬ (1 ≤ a2.toInt ∧ a2.toInt ≤ 199) → r = -2) (h0 : ¬ ((0 ≤ a1.toInt ∧ a1.toInt < (c : Int)) ∧ knW a3.toInt) → r = -1)
    (h2 : ∀ p, p < c → a1.toInt = ((p : Nat) : Int) → knW a3.toInt → (1 ≤ a2.toInt ∧ a2.toInt ≤ 199) → r.toInt = woR L kd v ro A p a2.toInt a3.toInt) : ok (f_M_would N 133 a1 a2 a3 z) (fun r' w2 => r = r' ∧ Sim w2) := by
  have hm := lay_M hxz.1.1
  have ti_15' : (15 : Int32).toInt = 15 := rfl
  have ti_25' : (25 : Int32).toInt = 25 := rfl
  have core : (0 ≤ a1.toInt ∧ a1.toInt < (c : Int)) → knW a3.toInt → ok (f_M_would_b44 N 133 a1 a2 a3 z) (fun r' w2 => r = r' ∧ Sim w2) := by
    intro hpay hk
    obtain ⟨p, hpp⟩ : ∃ p : Nat, a1.toInt = (p : Int) := ⟨a1.toInt.toNat, by omega⟩
    have hp : p < c := by omega
    unfold f_M_would_b44
    simp only [ok_gd, true_and, hm]
    refine ok_call (c_Mprice hxz.1.1) ?_
    rintro r2 u2 ⟨rfl, hr2⟩
    rw [ok_cd]
    refine ⟨fun d => ok_ret.mpr ⟨h1 hpay hk (hr2.z.mp d), hxz.1⟩, fun d => ?_⟩
    have d' := Classical.not_not.mp (fun z => d (hr2.z.mpr z))
    have hr := h2 p hp hpp hk d'
    simp only [ok_gd, true_and, hm]
    refine ok_call (hxz.2.2.1.could hN hp hpp rfl (by omega)) ?_
    rintro r3 u3 ⟨f3, hr3⟩
    have hS3 : Sim u3 := hxz.1.rf f3.rF
    have hm3 := lay_M hS3.1
    rcases hr3 with ⟨hr3, hcn⟩ | ⟨hr3, y, hcn, hh, h38, h39⟩
    · rw [woR_n hcn] at hr
      exact ok_cdt (by rw [ti_eq, hr3, ti_0]) (ok_ret.mpr ⟨ti_eq.mpr (by rw [hr, ti_n5]), hS3⟩)
    · rw [woR_s hcn] at hr
      refine ok_cdf (by rw [ti_eq, hr3, ti_0]; decide) ?_
      rw [ok_cd]
      refine ⟨fun e => ?_, fun e => ?_⟩
      · rw [ti_le, ti_2] at e
        have hk' : 0 ≤ a3.toInt := by unfold knW at hk; omega
        rw [if_neg (by omega), if_neg (by omega)] at hr
        rw [ok_cd]
        refine ⟨fun g => ?_, fun g => ?_⟩
        · rw [ti_eq, ti_0] at g
          rw [if_pos g] at hr
          simp only [ok_gd, ok_bd, ok_rr1, ok_nr0, ok_nr1, ok_ret, true_and, and_true, not_false_eq_true, sh_sI, sh_sR, sh_sL, gR_sI, gR_sL, gI_sR, gI_sL, sh_cI, gR_cI, hm3]
          exact ⟨ti_eq.mpr (by rw [hr, hh.1]), hS3⟩
        · rw [ti_eq, ti_0] at g
          rw [if_neg g] at hr
          rw [ok_cd]
          refine ⟨fun g => ?_, fun g => ?_⟩
          · rw [ti_eq, ti_1] at g
            rw [if_pos g] at hr
            simp only [ok_gd, ok_bd, ok_rr1, ok_nr0, ok_nr1, ok_ret, true_and, and_true, not_false_eq_true, sh_sI, sh_sR, sh_sL, gR_sI, gR_sL, gI_sR, gI_sL, sh_cI, gR_cI, hm3]
            exact ⟨ti_eq.mpr (by rw [hr, h39]), hS3⟩
          · rw [ti_eq, ti_1] at g
            rw [if_neg g] at hr
            simp only [ok_gd, ok_bd, ok_rr1, ok_nr0, ok_nr1, ok_ret, true_and, and_true, not_false_eq_true, sh_sI, sh_sR, sh_sL, gR_sI, gR_sL, gI_sR, gI_sL, sh_cI, gR_cI, hm3]
            exact ⟨ti_eq.mpr (by rw [hr, h38]), hS3⟩
      · rw [ti_le, ti_2] at e
        rw [ok_cd]
        refine ⟨fun g => ?_, fun g => ?_⟩
        · rw [ti_le, ti_20'] at g
          have hk' : 20 ≤ a3.toInt ∧ a3.toInt < 26 := by unfold knW at hk; omega
          rw [if_neg (by omega), if_pos hk'] at hr
          obtain ⟨s, hs⟩ : ∃ s : Nat, a3.toInt = ((20 + s : Nat) : Int) := ⟨a3.toInt.toNat - 20, by omega⟩
          have hs6 : s < 6 := by omega
          have e1 : (a3.toInt - 20).toNat = s := by omega
          rw [e1] at hr
          have e2 := sub_n (d := 20) ti_20' (by omega) hs (by omega)
          have n2 := nat_of e2
          have g2 := ix_of (m := 6) e2 hs6
          rw [n2] at g2
          simp only [ok_gd, ok_bd, ok_rr1, ok_nr0, ok_nr1, ok_ret, true_and, and_true, not_false_eq_true, sh_sI, sh_sR, sh_sL, gR_sI, gR_sL, gI_sR, gI_sL, sh_cI, gR_cI, hm3, n2, g2]
          exact ⟨ti_eq.mpr (by rw [hr, (hh.2 s hs6).2]), hS3⟩
        · rw [ti_le, ti_20'] at g
          have hk' : 10 ≤ a3.toInt ∧ a3.toInt < 16 := by unfold knW at hk; omega
          rw [if_pos hk'] at hr
          obtain ⟨s, hs⟩ : ∃ s : Nat, a3.toInt = ((10 + s : Nat) : Int) := ⟨a3.toInt.toNat - 10, by omega⟩
          have hs6 : s < 6 := by omega
          have e1 : (a3.toInt - 10).toNat = s := by omega
          rw [e1] at hr
          have e2 := sub_n (d := 10) ti_10' (by omega) hs (by omega)
          have n2 := nat_of e2
          have g2 := ix_of (m := 6) e2 hs6
          rw [n2] at g2
          simp only [ok_gd, ok_bd, ok_rr1, ok_nr0, ok_nr1, ok_ret, true_and, and_true, not_false_eq_true, sh_sI, sh_sR, sh_sL, gR_sI, gR_sL, gI_sR, gI_sL, sh_cI, gR_cI, hm3, n2, g2]
          exact ⟨ti_eq.mpr (by rw [hr, (hh.2 s hs6).1]), hS3⟩
  unfold f_M_would f_M_would_b0
  simp only [ok_gd, true_and, hm]
  refine ok_call hxz.mp ?_
  rintro r1 u1 ⟨rfl, hr1⟩
  rw [ok_cd]
  refine ⟨fun cc => ok_ret.mpr ⟨h0 (fun z => (hr1.z.mp cc) z.1), hxz.1⟩, fun cc => ?_⟩
  have c' := Classical.not_not.mp (fun z => cc (hr1.z.mpr z))
  simp only [ok_gd, true_and, hm]
  refine ok_call c_Min ?_
  rintro r2 u2 ⟨rfl, hr2⟩
  rw [ti_0, ti_2] at hr2
  rw [ok_cd]
  refine ⟨fun d => ?_, fun d => core c' (Or.inl (Classical.not_not.mp (fun z => d (hr2.z.mpr z))))⟩
  have d' := hr2.z.mp d
  simp only [ok_gd, true_and, hm]
  refine ok_call c_Min ?_
  rintro r3 u3 ⟨rfl, hr3⟩
  rw [ti_10', ti_15'] at hr3
  rw [ok_cd]
  refine ⟨fun e => ?_, fun e => ?_⟩
  · have e' := hr3.z.mp e
    simp only [ok_gd, true_and, hm]
    refine ok_call c_Min ?_
    rintro r4 u4 ⟨rfl, hr4⟩
    rw [ti_20', ti_25'] at hr4
    rw [ok_cd]
    refine ⟨fun g => ?_, fun g => ?_⟩
    · have g' := hr4.z.mp g
      refine ok_ret.mpr ⟨h0 (fun z => ?_), hxz.1⟩
      have := z.2; unfold knW at this; omega
    · have g' := Classical.not_not.mp (fun z => g (hr4.z.mpr z))
      exact core c' (Or.inr (Or.inr (by omega)))
  · have e' := Classical.not_not.mp (fun z => e (hr3.z.mpr z))
    exact core c' (Or.inr (Or.inl (by omega)))
set_option maxHeartbeats 1000000 in
theorem p_would (hN : 1000 ≤ N) (h : Sim w) : ok (f_X_would N 0 a1 a2 a3 w) (fun r w1 => ok (f_M_would N 133 a1 a2 a3 w1) (fun r' w2 => r = r' ∧ Sim w2)) := by
  obtain ⟨c, tp, b, kd, v, ob, ro, L, A, hx0⟩ := h.cx
  have hx := lay_X h.1
  unfold f_X_would f_X_would_b0
  simp only [ok_gd, true_and, hx]
  refine ok_call hx0.xp ?_
  rintro r1 u1 ⟨rfl, hr1⟩
  rcases hr1 with ⟨p, hp, ha, rfl⟩ | ⟨hr1, rfl⟩
  · have hpay : 0 ≤ a1.toInt ∧ a1.toInt < (c : Int) := by omega
    have core : knW a3.toInt → ok (f_X_would_b41 N 0 a2 a3 (ob p) 1 u1) (fun r w1 => ok (f_M_would N 133 a1 a2 a3 w1) (fun r' w2 => r = r' ∧ Sim w2)) := by
      intro hk
      unfold f_X_would_b41
      refine ok_cdf (by decide) ?_
      refine ok_call c_Xprice ?_
      rintro r2 u2 ⟨rfl, hr2⟩
      rw [ok_cd]
      refine ⟨fun d => ?_, fun d => ?_⟩
      · have d' := hr2.z.mp d
        exact ok_ret.mpr (c_Mwould hN hx0 _ (fun _ _ _ => rfl) (fun z => absurd ⟨hpay, hk⟩ z) (fun _ _ _ _ z => absurd z d'))
      · have d' := Classical.not_not.mp (fun z => d (hr2.z.mpr z))
        have go : ∀ (r : Int32) (u : gW), RF u2 u → r.toInt = woR L kd v ro A p a2.toInt a3.toInt → ok (some (r, u)) (fun r w1 => ok (f_M_would N 133 a1 a2 a3 w1) (fun r' w2 => r = r' ∧ Sim w2)) := by
          intro r u f hr
          refine ok_ret.mpr (c_Mwould hN (hx0.rf f) r (fun _ _ z => absurd d' z) (fun z => absurd ⟨hpay, hk⟩ z) (fun q hq hqa _ _ => ?_))
          have e : q = p := by omega
          rw [e]; exact hr
        simp only [ok_gd, ok_bd, ok_rr1, ok_nr0, ok_nr1, ok_ret, true_and, and_true, not_false_eq_true, sh_sI, sh_sR, sh_sL, gR_sI, gR_sL, gI_sR, gI_sL, sh_cI, gR_cI, hx]
        refine ok_call (hx0.2.1.choose hN hp rfl (by omega)) ?_
        rintro r3 u3 ⟨f3, hca3, hr3⟩
        have fr : RF u2 u3 := (scRM f3).rF
        have hx3 := lay_X hca3.1
        have hp3 := lay_P hca3.1
        rcases hr3 with ⟨hr3, hcn⟩ | ⟨hr3, y, hcn, hh⟩
        · exact ok_cdt (by rw [ti_eq, hr3, ti_0]) (go _ _ fr (by rw [woR_n hcn, ti_n5]))
        · have hr := woR_s (L := L) (kd := kd) (v := v) (ro := ro) (A := A) (p := p) (q := a3.toInt) hcn
          refine ok_cdf (by rw [ti_eq, hr3, ti_0]; decide) ?_
          simp only [ok_bd]
          refine ok_call c_Xsort ?_
          rintro r4 u4 ⟨rfl, hr4⟩
          rw [sub_in (d := 10) ti_10' (by omega)] at hr4
          rw [ok_cd]
          refine ⟨fun e => ?_, fun e => ?_⟩
          · have e' := hr4.z.mp e
            rw [if_neg (by omega)] at hr
            simp only [ok_bd]
            refine ok_call c_Xsort ?_
            rintro r5 u5 ⟨rfl, hr5⟩
            rw [sub_in (d := 20) ti_20' (by omega)] at hr5
            rw [ok_cd]
            refine ⟨fun g => ?_, fun g => ?_⟩
            · have g' := hr5.z.mp g
              rw [if_neg (by omega)] at hr
              rw [ok_cd]
              refine ⟨fun q0 => ?_, fun q0 => ?_⟩
              · rw [ti_eq, ti_0] at q0
                rw [if_pos q0] at hr
                simp only [ok_gd, ok_bd, ok_rr1, true_and, hx3, hp3]
                exact go _ _ fr (by rw [hr]; exact hh.2.1.2.2.1)
              · rw [ti_eq, ti_0] at q0
                rw [if_neg q0] at hr
                rw [ok_cd]
                refine ⟨fun q1 => ?_, fun q1 => ?_⟩
                · rw [ti_eq, ti_1] at q1
                  rw [if_pos q1] at hr
                  simp only [ok_gd, ok_bd, ok_rr1, true_and, hx3]
                  refine ok_call (hca3.behindC hN hp (by omega) hcn hh) ?_
                  rintro r6 u6 ⟨rfl, hr6⟩
                  exact go _ _ fr (by rw [hr]; exact hr6)
                · rw [ti_eq, ti_1] at q1
                  rw [if_neg q1] at hr
                  simp only [ok_gd, ok_bd, ok_rr1, true_and, hx3]
                  refine ok_call (hca3.behindW hN hp (by omega) hcn hh) ?_
                  rintro r6 u6 ⟨rfl, hr6⟩
                  exact go _ _ fr (by rw [hr]; exact hr6)
            · have g' := Classical.not_not.mp (fun z => g (hr5.z.mpr z))
              rw [if_pos (by omega)] at hr
              obtain ⟨s, hs⟩ : ∃ s : Nat, a3.toInt = ((20 + s : Nat) : Int) := ⟨a3.toInt.toNat - 20, by omega⟩
              have hs6 : s < 6 := by omega
              have e1 : (a3.toInt - 20).toNat = s := by omega
              rw [e1] at hr
              have e2 := sub_n (d := 20) ti_20' (by omega) hs (by omega)
              have n2 := nat_of e2
              have g2 := ix_of (m := 6) e2 hs6
              rw [n2] at g2
              simp only [ok_gd, ok_bd, ok_rr1, true_and, not_false_eq_true, hx3, hp3, n2, g2]
              exact go _ _ fr (by rw [hr]; exact hh.2.2 s hs6)
          · have e' := Classical.not_not.mp (fun z => e (hr4.z.mpr z))
            rw [if_pos (by omega)] at hr
            obtain ⟨s, hs⟩ : ∃ s : Nat, a3.toInt = ((10 + s : Nat) : Int) := ⟨a3.toInt.toNat - 10, by omega⟩
            have hs6 : s < 6 := by omega
            have e1 : (a3.toInt - 10).toNat = s := by omega
            rw [e1] at hr
            have e2 := sub_n (d := 10) ti_10' (by omega) hs (by omega)
            have n2 := nat_of e2
            have g2 := ix_of (m := 6) e2 hs6
            rw [n2] at g2
            simp only [ok_gd, ok_bd, ok_rr1, true_and, not_false_eq_true, hx3, hp3, n2, g2]
            exact go _ _ fr (by rw [hr]; exact hh.2.1.2.1 s hs6)
    have b16 : ¬ (0 ≤ a3.toInt ∧ a3.toInt ≤ 2) → ok (f_X_would_b16 N 0 a2 a3 (ob p) u1) (fun r w1 => ok (f_M_would N 133 a1 a2 a3 w1) (fun r' w2 => r = r' ∧ Sim w2)) := by
      intro hn
      unfold f_X_would_b16
      simp only [ok_bd]
      refine ok_call c_Xsort ?_
      rintro r4 u4 ⟨rfl, hr4⟩
      rw [sub_in (d := 10) ti_10' (by omega)] at hr4
      rw [ok_cd]
      refine ⟨fun e => ?_, fun e => ?_⟩
      · have e' := hr4.z.mp e
        simp only [ok_bd]
        refine ok_call c_Xsort ?_
        rintro r5 u5 ⟨rfl, hr5⟩
        rw [sub_in (d := 20) ti_20' (by omega)] at hr5
        rw [ok_cd]
        refine ⟨fun g => ?_, fun g => ?_⟩
        · have g' := hr5.z.mp g
          have nk : ¬ knW a3.toInt := by unfold knW; omega
          unfold f_X_would_b41
          exact ok_cdt rfl (ok_ret.mpr (c_Mwould hN hx0 _ (fun _ z _ => absurd z nk) (fun _ => rfl) (fun _ _ _ z _ => absurd z nk)))
        · have g' := Classical.not_not.mp (fun z => g (hr5.z.mpr z))
          exact core (Or.inr (Or.inr (by omega)))
      · have e' := Classical.not_not.mp (fun z => e (hr4.z.mpr z))
        exact core (Or.inr (Or.inl (by omega)))
    simp only [ok_nr1]
    rw [ok_cd]
    refine ⟨fun d => ?_, fun d => ?_⟩
    · rw [ti_lt, ti_0] at d
      exact b16 (by omega)
    · rw [ti_lt, ti_0] at d
      rw [ok_cd]
      refine ⟨fun e => ?_, fun e => ?_⟩
      · rw [ti_le, ti_2] at e
        exact core (Or.inl (by omega))
      · rw [ti_le, ti_2] at e
        exact b16 (by omega)
  · have no : ok (some ((-1 : Int32), u1)) (fun r w1 => ok (f_M_would N 133 a1 a2 a3 w1) (fun r' w2 => r = r' ∧ Sim w2)) := ok_ret.mpr (c_Mwould hN hx0 _ (fun z _ _ => absurd z hr1) (fun _ => rfl) (fun p hp ha _ _ => absurd ⟨by omega, by omega⟩ hr1))
    have b16 : ok (f_X_would_b16n4 N 0 a2 a3 u1) (fun r w1 => ok (f_M_would N 133 a1 a2 a3 w1) (fun r' w2 => r = r' ∧ Sim w2)) := by
      unfold f_X_would_b16n4
      simp only [ok_bd]
      refine ok_call c_Xsort ?_
      rintro r4 u4 ⟨rfl, -⟩
      rw [ok_cd]
      refine ⟨fun e => ?_, fun e => no⟩
      simp only [ok_bd]
      refine ok_call c_Xsort ?_
      rintro r5 u5 ⟨rfl, -⟩
      rw [ok_cd]
      exact ⟨fun _ => no, fun _ => no⟩
    simp only [ok_nr0]
    rw [ok_cd]
    refine ⟨fun _ => b16, fun _ => ?_⟩
    rw [ok_cd]
    exact ⟨fun _ => no, fun _ => b16⟩
end WOULD
