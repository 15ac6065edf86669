/-! ===== behind, who =====  -/
section BEHIND
variable {N c tp b p n W : Nat} {w u z : gW} {kd v ob : Nat → Nat} {ro : Nat → Nat → Int} {L : List Cl} {A : PS} {a a1 a2 : Int32} {pr : Nat → Nat}
theorem c_Wco (hN : 1000 ≤ N) (h : CA w W c tp kd v ob ro L A) (hp : p < c) (h1 : a1.toInt = (p : Int)) : ok (f_Wo_coins N W a1 w) (fun r u => u = w ∧ r.toInt = cnS (A.1 p)) := c_Wcoins hN (h.cp hp) h1
theorem p_behind (hN : 1000 ≤ N) (h : Sim w) : ok (f_X_behind N 0 a1 a2 w) (fun r w1 => ok (f_M_behind N 133 a1 a2 w1) (fun r' w2 => r = r' ∧ Sim w2)) := by
  obtain ⟨c, tp, b, kd, v, ob, ro, L, A, hx0⟩ := h.cx
  have hpi := h.pri
  generalize (gI w 133 41).toInt.toNat = n at hpi
  generalize (fun i => (gI w 161 i).toInt.toNat) = pr at hpi
  have mod : ∀ (z : gW) (Q : Int32 → gW → Prop), CX z c tp b kd v ob ro L A → (¬ ((0 ≤ a1.toInt ∧ a1.toInt < (c : Int)) ∧ 0 ≤ a2.toInt ∧ a2.toInt ≤ 2) → Q (-1) z) → ((0 ≤ a1.toInt ∧ a1.toInt < (c : Int)) → (0 ≤ a2.toInt ∧ a2.toInt ≤ 2) → ok (f_M_goesRow N 133 a1 z) (fun r u => RF z u ∧ ok (cd (a2 = 0) (gd ((sh u 133).1 = 12) (bd (gI u 133 38) fun x16 => some (x16, u))) (cd (a2 = 1) (gd ((sh u 133).1 = 12) (bd (gI u 133 39) fun x14 => some (x14, u))) (some (r, u)))) Q)) → ok (f_M_behind N 133 a1 a2 z) Q := by
    intro z Q hxz h1 h2
    have hm := lay_M hxz.1.1
    unfold f_M_behind f_M_behind_b0
    simp only [ok_gd, ok_bd, ok_rr1, ok_nr0, ok_nr1, ok_ret, true_and, and_true, not_false_eq_true, sh_sI, sh_sR, sh_sL, gR_sI, gR_sL, gI_sR, gI_sL, sh_cI, gR_cI, hm]
    refine ok_call hxz.mp ?_
    rintro r1 u1 ⟨rfl, hr1⟩
    rw [ok_cd]
    refine ⟨fun c => ok_ret.mpr (h1 (fun z => (hr1.z.mp c) z.1)), fun c => ?_⟩
    simp only [ok_gd, ok_bd, ok_rr1, ok_nr0, ok_nr1, ok_ret, true_and, and_true, not_false_eq_true, sh_sI, sh_sR, sh_sL, gR_sI, gR_sL, gI_sR, gI_sL, sh_cI, gR_cI, hm]
    refine ok_call c_Min ?_
    rintro r2 u2 ⟨rfl, hr2⟩
    rw [ti_0, ti_2] at hr2
    rw [ok_cd]
    refine ⟨fun d => ok_ret.mpr (h1 (fun z => (hr2.z.mp d) z.2)), fun d => ?_⟩
    simp only [ok_gd, ok_bd, ok_rr1, ok_nr0, ok_nr1, ok_ret, true_and, and_true, not_false_eq_true, sh_sI, sh_sR, sh_sL, gR_sI, gR_sL, gI_sR, gI_sL, sh_cI, gR_cI, hm]
    exact ok_call (h2 (Classical.not_not.mp (fun z => c (hr1.z.mpr z))) (Classical.not_not.mp (fun z => d (hr2.z.mpr z)))) (fun r u hh => hh.2)
  have hx := lay_R h.1
  unfold f_X_behind f_X_behind_b0
  simp only [ok_gd, ok_bd, ok_rr1, ok_nr0, ok_nr1, ok_ret, true_and, and_true, not_false_eq_true, sh_sI, sh_sR, sh_sL, gR_sI, gR_sL, gI_sR, gI_sL, sh_cI, gR_cI, hx]
  refine ok_call hx0.xp ?_
  rintro r1 u1 ⟨rfl, hr1⟩
  rcases hr1 with ⟨p, hp, ha, rfl⟩ | ⟨hr1, rfl⟩
  · simp only [ok_gd, ok_bd, ok_rr1, ok_nr0, ok_nr1, ok_ret, true_and, and_true, not_false_eq_true, sh_sI, sh_sR, sh_sL, gR_sI, gR_sL, gI_sR, gI_sL, sh_cI, gR_cI]
    rw [ok_cd]
    refine ⟨fun d => ?_, fun d => ?_⟩
    · rw [ti_lt, ti_0] at d
      exact ok_ret.mpr (mod u1 _ hx0 (fun _ => ⟨rfl, h⟩) (fun _ z => absurd z.1 (by omega)))
    · rw [ti_lt, ti_0] at d
      rw [ok_cd]
      refine ⟨fun g => ?_, fun g => ?_⟩
      · rw [ti_le, ti_2] at g
        simp only [ok_gd, ok_bd, ok_rr1, ok_nr0, ok_nr1, ok_ret, true_and, and_true, not_false_eq_true, sh_sI, sh_sR, sh_sL, gR_sI, gR_sL, gI_sR, gI_sL, sh_cI, gR_cI, hx]
        refine ok_call (c_XpayRow hN hx0 hpi hp) ?_
        rintro r2 u2 ⟨f2, hca2, hr2⟩
        have hx2 := hx0.rf f2
        have hpi2 := hpi.rf f2
        have hl2 := lay_R hca2.1
        -- the model's end
        have go : ∀ (r : Int32), (a2.toInt = 2 → r.toInt = ((rwS L kd v ro A p pr n).2 : Int)) → (a2.toInt = 0 → r.toInt = wgt L ((rwS L kd v ro A p pr n).1.1 p)) → (a2.toInt = 1 → r.toInt = cnS ((rwS L kd v ro A p pr n).1.1 p)) → ok (f_M_behind N 133 a1 a2 u2) (fun r' w2 => r = r' ∧ Sim w2) := by
          intro r h2 h0 h1
          refine mod u2 _ hx2 (fun z => absurd ⟨by omega, by omega, g⟩ z) (fun _ _ => ?_)
          refine (c_MgoesRow hN hx2 hpi2 hp ha).mono ?_
          rintro r3 u3 ⟨f3, hr3, h38, h39⟩
          refine ⟨f3, ?_⟩
          have hm := lay_M (hx2.rf f3).1.1
          rw [ok_cd]
          refine ⟨fun cc => ?_, fun cc => ?_⟩
          · rw [ti_eq, ti_0] at cc
            simp only [ok_gd, ok_bd, ok_rr1, ok_nr0, ok_nr1, ok_ret, true_and, and_true, not_false_eq_true, sh_sI, sh_sR, sh_sL, gR_sI, gR_sL, gI_sR, gI_sL, sh_cI, gR_cI, hm]
            exact ⟨ti_eq.mpr (by rw [h0 cc, h38]), hx2.1.rf f3⟩
          · rw [ti_eq, ti_0] at cc
            rw [ok_cd]
            refine ⟨fun dd => ?_, fun dd => ?_⟩
            · rw [ti_eq, ti_1] at dd
              simp only [ok_gd, ok_bd, ok_rr1, ok_nr0, ok_nr1, ok_ret, true_and, and_true, not_false_eq_true, sh_sI, sh_sR, sh_sL, gR_sI, gR_sL, gI_sR, gI_sL, sh_cI, gR_cI, hm]
              exact ⟨ti_eq.mpr (by rw [h1 dd, h39]), hx2.1.rf f3⟩
            · rw [ti_eq, ti_1] at dd
              exact ok_ret.mpr ⟨ti_eq.mpr (by rw [h2 (by omega), hr3]), hx2.1.rf f3⟩
        rw [ok_cd]
        refine ⟨fun cc => ?_, fun cc => ?_⟩
        · rw [ti_eq, ti_2] at cc
          exact ok_ret.mpr (go r2 (fun _ => hr2) (fun z => by omega) (fun z => by omega))
        · rw [ti_eq, ti_2] at cc
          rw [ok_cd]
          refine ⟨fun dd => ?_, fun dd => ?_⟩
          · rw [ti_eq, ti_0] at dd
            simp only [ok_gd, ok_bd, ok_rr1, ok_nr0, ok_nr1, ok_ret, true_and, and_true, not_false_eq_true, sh_sI, sh_sR, sh_sL, gR_sI, gR_sL, gI_sR, gI_sL, sh_cI, gR_cI, hl2]
            refine ok_call (c_Wweight hN hca2 hp ha) ?_
            rintro r4 u4 ⟨rfl, hr4⟩
            exact ok_ret.mpr (go r4 (fun z => absurd z cc) (fun _ => hr4) (fun z => by omega))
          · rw [ti_eq, ti_0] at dd
            simp only [ok_gd, ok_bd, ok_rr1, ok_nr0, ok_nr1, ok_ret, true_and, and_true, not_false_eq_true, sh_sI, sh_sR, sh_sL, gR_sI, gR_sL, gI_sR, gI_sL, sh_cI, gR_cI, hl2]
            refine ok_call (c_Wco hN hca2 hp ha) ?_
            rintro r4 u4 ⟨rfl, hr4⟩
            exact ok_ret.mpr (go r4 (fun z => absurd z cc) (fun z => absurd z dd) (fun _ => hr4))
      · rw [ti_le, ti_2] at g
        exact ok_ret.mpr (mod u1 _ hx0 (fun _ => ⟨rfl, h⟩) (fun _ z => absurd z.2 g))
  · simp only [ok_gd, ok_bd, ok_rr1, ok_nr0, ok_nr1, ok_ret, true_and, and_true, not_false_eq_true, sh_sI, sh_sR, sh_sL, gR_sI, gR_sL, gI_sR, gI_sL, sh_cI, gR_cI]
    exact mod u1 _ hx0 (fun _ => ⟨rfl, h⟩) (fun z => absurd z hr1)
/-- of those who can pay all, the first with the fewest coins -/
def whS (g : Nat → Option Int) : Nat → Option (Nat × Int)
  | 0 => none
  | k + 1 => match g k with
    | none => whS g k
    | some z => match whS g k with
      | none => some (k, z)
      | some (q, m) => if z < m then some (k, z) else some (q, m)
noncomputable def whG (L : List Cl) (kd v : Nat → Nat) (ro : Nat → Nat → Int) (A : PS) (pr : Nat → Nat) (n : Nat) (p : Nat) : Option Int := if (rwS L kd v ro A p pr n).2 = n then some (cnS ((rwS L kd v ro A p pr n).1.1 p)) else none
theorem rwS_rg (hw : WF L) (hl : L.length ≤ 10) (hp : p < 4) (hr : rgS A) : ∀ k, rgS (rwS L kd v ro A p pr k).1 := by
  intro k
  induction k with
  | zero => exact hr
  | succ k ih =>
    cases hc : cS L kd v ro (rwS L kd v ro A p pr k).1 p (pr k) with
    | none => rw [rwS_0 hc]; exact ih
    | some y => rw [rwS_1 hc]; exact (nS_rg ih hw hl hp hc (by omega)).1
set_option maxHeartbeats 1000000 in
theorem c_Xwho (hN : 1000 ≤ N) (h : CX w c tp b kd v ob ro L A) (hpi : PRI w n pr) : ok (f_X_who N 0 w) (fun r u => RF w u ∧ r.toInt = nxR (whS (whG L kd v ro A pr n) c)) := by
  have hc4 : c ≤ 4 := h.2.2.2.2.2.1
  unfold f_X_who f_X_who_b0 f_X_who_l8
  refine itr_up (fun k q => q.1 = 0 ∧ q.2.2.2.1.toInt = (k : Int) ∧ RF w q.2.2.2.2 ∧ ((whS (whG L kd v ro A pr n) k = none ∧ q.2.1.toInt = -5 ∧ q.2.2.1.toInt = 1000000000) ∨ ∃ j m, whS (whG L kd v ro A pr n) k = some (j, m) ∧ q.2.1.toInt = ((j : Nat) : Int) ∧ q.2.2.1.toInt = m)) c ?_ ?_ N 0 _ (by omega) ?_ (by omega)
  · rintro rec k ⟨b0, a1, a2, a3, u⟩ hk ⟨e0, e5, f, e3⟩ IH
    simp only at e0 e5 f e3
    subst e0
    have hcx := h.rf f
    have hpu := hpi.rf f
    have hx := lay_R hcx.1.1
    have k9 : k < 2147483647 := by omega
    have n5 := nat_of e5
    have g5 := ix_of (m := 4) e5 (by omega)
    rw [n5] at g5
    show ok (f_X_who_b8 N rec 0 a1 a2 a3 u) _
    unfold f_X_who_b8
    simp only [ok_gd, ok_bd, ok_rr1, ok_nr0, ok_nr1, ok_ret, true_and, and_true, not_false_eq_true, sh_sI, sh_sR, sh_sL, gR_sI, gR_sL, gI_sR, gI_sL, sh_cI, gR_cI, hx]
    refine ok_cdf (by rw [ti_le, hcx.2.2.2.2.1, e5]; omega) ?_
    simp only [ok_gd, ok_bd, ok_rr1, ok_nr0, ok_nr1, ok_ret, true_and, and_true, not_false_eq_true, sh_sI, sh_sR, sh_sL, gR_sI, gR_sL, gI_sR, gI_sL, sh_cI, gR_cI, hx, n5, g5, hcx.2.2.2.2.2.2 k hk]
    refine ok_call (c_XpayRow hN hcx hpu hk) ?_
    rintro r1 u1 ⟨f1, hca1, hr1⟩
    have fr := f.tr f1
    have hx1 := lay_R hca1.1
    have e7 : (gI u1 9 7).toInt = (n : Int) := (hpi.rf fr).2.1
    simp only [ok_gd, ok_bd, ok_rr1, ok_nr0, ok_nr1, ok_ret, true_and, and_true, not_false_eq_true, sh_sI, sh_sR, sh_sL, gR_sI, gR_sL, gI_sR, gI_sL, sh_cI, gR_cI, hx1]
    have rg := rwS_rg (kd := kd) (v := v) (ro := ro) (pr := pr) (L := L) (A := A) h.2.1.2.2.2.2.2.1.2.2.1 h.2.1.2.2.2.2.2.1.2.2.2.1 (show k < 4 by omega) h.2.1.2.2.2.2.2.2.2.2.2.2.1 n
    have cb := cnS_in (fun s hs => rg.1 k s (by omega) hs)
    rw [ok_cd]
    refine ⟨fun cc => ?_, fun cc => ?_⟩
    · rw [ti_eq, hr1, e7] at cc
      have eg : whG L kd v ro A pr n k = some (cnS ((rwS L kd v ro A k pr n).1.1 k)) := by unfold whG; rw [if_pos (by omega)]
      simp only [ok_gd, ok_bd, ok_rr1, ok_nr0, ok_nr1, ok_ret, true_and, and_true, not_false_eq_true, sh_sI, sh_sR, sh_sL, gR_sI, gR_sL, gI_sR, gI_sL, sh_cI, gR_cI, hx1]
      refine ok_call (c_Wco hN hca1 hk e5) ?_
      rintro r2 u2 ⟨rfl, hr2⟩
      rw [ok_cd]
      refine ⟨fun d => ?_, fun d => ?_⟩
      · rw [ti_le, hr2] at d
        simp only [ok_bd]
        refine IH _ ?_
        refine ⟨rfl, ti_p1 e5 k9, fr, ?_⟩
        rcases e3 with ⟨h1, h2, h3⟩ | ⟨j, m, h1, h2, h3⟩
        · omega
        · refine Or.inr ⟨j, m, ?_, h2, h3⟩
          simp only [whS, eg, h1]; rw [if_neg (by omega)]
      · rw [ti_le, hr2] at d
        simp only [ok_gd, ok_bd, ok_rr1, ok_nr0, ok_nr1, ok_ret, true_and, and_true, not_false_eq_true, sh_sI, sh_sR, sh_sL, gR_sI, gR_sL, gI_sR, gI_sL, sh_cI, gR_cI, hx1]
        refine ok_call (c_Wco hN hca1 hk e5) ?_
        rintro r3 u3 ⟨rfl, hr3⟩
        simp only [ok_bd]
        refine IH _ ?_
        refine ⟨rfl, ti_p1 e5 k9, fr, Or.inr ⟨k, _, ?_, e5, hr3⟩⟩
        rcases e3 with ⟨h1, h2, h3⟩ | ⟨j, m, h1, h2, h3⟩
        · simp only [whS, eg, h1]
        · simp only [whS, eg, h1]; rw [if_pos (by omega)]
    · rw [ti_eq, hr1, e7] at cc
      have eg : whG L kd v ro A pr n k = none := by unfold whG; rw [if_neg (by omega)]
      have e : whS (whG L kd v ro A pr n) (k + 1) = whS (whG L kd v ro A pr n) k := by simp only [whS, eg]
      simp only [ok_bd]
      refine IH _ ?_
      rw [e]
      exact ⟨rfl, ti_p1 e5 k9, fr, e3⟩
  · rintro rec ⟨b0, a1, a2, a3, u⟩ ⟨e0, e5, f, e3⟩
    simp only at e0 e5 f e3
    subst e0
    have hcx := h.rf f
    have hx := lay_R hcx.1.1
    show ok (f_X_who_b8 N rec 0 a1 a2 a3 u) _
    unfold f_X_who_b8
    simp only [ok_gd, ok_bd, ok_rr1, ok_nr0, ok_nr1, ok_ret, true_and, and_true, not_false_eq_true, sh_sI, sh_sR, sh_sL, gR_sI, gR_sL, gI_sR, gI_sL, sh_cI, gR_cI, hx]
    refine ok_cdt (by rw [ti_le, hcx.2.2.2.2.1, e5]; omega) (ok_ret.mpr ⟨f, ?_⟩)
    rcases e3 with ⟨h1, h2, h3⟩ | ⟨j, m, h1, h2, h3⟩
    · rw [h1, h2]; rfl
    · rw [h1, h2]; rfl
  · exact ⟨rfl, rfl, RF.rf, Or.inl ⟨rfl, rfl, rfl⟩⟩
set_option maxHeartbeats 1000000 in
theorem c_Mwho (hN : 1000 ≤ N) (h : CX w c tp b kd v ob ro L A) (hpi : PRI w n pr) : ok (f_M_who N 133 w) (fun r u => RF w u ∧ r.toInt = nxR (whS (whG L kd v ro A pr n) c)) := by
  have hc4 : c ≤ 4 := h.2.2.2.2.2.1
  unfold f_M_who f_M_who_b0 f_M_who_l7
  refine itr_up (fun k q => q.1 = 133 ∧ q.2.2.2.1.toInt = (k : Int) ∧ RF w q.2.2.2.2 ∧ ((whS (whG L kd v ro A pr n) k = none ∧ q.2.1.toInt = -5) ∨ ∃ j m, whS (whG L kd v ro A pr n) k = some (j, m) ∧ q.2.1.toInt = ((j : Nat) : Int) ∧ q.2.2.1.toInt = m)) c ?_ ?_ N 0 _ (by omega) ?_ (by omega)
  · rintro rec k ⟨b0, a1, a2, a3, u⟩ hk ⟨e0, e5, f, e3⟩ IH
    simp only at e0 e5 f e3
    subst e0
    have hcx := h.rf f
    have hpu := hpi.rf f
    have hm := lay_M hcx.1.1
    have k9 : k < 2147483647 := by omega
    show ok (f_M_who_b7 N rec 133 a1 a2 a3 u) _
    unfold f_M_who_b7
    simp only [ok_gd, ok_bd, ok_rr1, ok_nr0, ok_nr1, ok_ret, true_and, and_true, not_false_eq_true, sh_sI, sh_sR, sh_sL, gR_sI, gR_sL, gI_sR, gI_sL, sh_cI, gR_cI, hm]
    refine ok_cdf (by rw [ti_le, ← hcx.2.2.2.1, e5]; omega) ?_
    refine ok_call (c_MgoesRow hN hcx hpu hk e5) ?_
    rintro r1 u1 ⟨f1, hr1, h38, h39⟩
    have fr := f.tr f1
    have hm1 := lay_M (h.rf fr).1.1
    have e41 : (gI u1 133 41).toInt = (n : Int) := (hpi.rf fr).2.2.1
    have ri := rwS_in (L := L) (kd := kd) (v := v) (ro := ro) (A := A) (p := k) (pr := pr) n
    simp only [ok_gd, ok_bd, ok_rr1, ok_nr0, ok_nr1, ok_ret, true_and, and_true, not_false_eq_true, sh_sI, sh_sR, sh_sL, gR_sI, gR_sL, gI_sR, gI_sL, sh_cI, gR_cI, hm1]
    rw [ok_cd]
    refine ⟨fun cc => ?_, fun cc => ?_⟩
    · rw [ti_lt, hr1, e41] at cc
      have eg : whG L kd v ro A pr n k = none := by unfold whG; rw [if_neg (by omega)]
      have e : whS (whG L kd v ro A pr n) (k + 1) = whS (whG L kd v ro A pr n) k := by simp only [whS, eg]
      simp only [ok_bd]
      refine IH _ ?_
      rw [e]
      exact ⟨rfl, ti_p1 e5 k9, fr, e3⟩
    · rw [ti_lt, hr1, e41] at cc
      have eg : whG L kd v ro A pr n k = some (cnS ((rwS L kd v ro A k pr n).1.1 k)) := by unfold whG; rw [if_pos (by omega)]
      have take : whS (whG L kd v ro A pr n) (k + 1) = some (k, cnS ((rwS L kd v ro A k pr n).1.1 k)) → ok (f_M_who_b42 N rec 133 a3 u1) (fun r u => RF w u ∧ r.toInt = nxR (whS (whG L kd v ro A pr n) c)) := by
        intro hnx
        unfold f_M_who_b42
        simp only [ok_gd, ok_bd, ok_rr1, ok_nr0, ok_nr1, ok_ret, true_and, and_true, not_false_eq_true, sh_sI, sh_sR, sh_sL, gR_sI, gR_sL, gI_sR, gI_sL, sh_cI, gR_cI, hm1]
        refine IH _ ?_
        exact ⟨rfl, ti_p1 e5 k9, fr, Or.inr ⟨k, _, hnx, e5, h39⟩⟩
      rw [ok_cd]
      refine ⟨fun d => ?_, fun d => ?_⟩
      · rw [ti_lt, ti_0] at d
        rcases e3 with ⟨h1, h2⟩ | ⟨j, m, h1, h2, h3⟩
        · exact take (by simp only [whS, eg, h1])
        · omega
      · rw [ti_lt, ti_0] at d
        rcases e3 with ⟨h1, h2⟩ | ⟨j, m, h1, h2, h3⟩
        · omega
        simp only [ok_gd, ok_bd, ok_rr1, ok_nr0, ok_nr1, ok_ret, true_and, and_true, not_false_eq_true, sh_sI, sh_sR, sh_sL, gR_sI, gR_sL, gI_sR, gI_sL, sh_cI, gR_cI, hm1]
        rw [ok_cd]
        refine ⟨fun g => ?_, fun g => ?_⟩
        · rw [ti_lt, h39, h3] at g
          exact take (by simp only [whS, eg, h1]; rw [if_pos g])
        · rw [ti_lt, h39, h3] at g
          simp only [ok_bd]
          refine IH _ ?_
          refine ⟨rfl, ti_p1 e5 k9, fr, Or.inr ⟨j, m, ?_, h2, h3⟩⟩
          simp only [whS, eg, h1]; rw [if_neg g]
  · rintro rec ⟨b0, a1, a2, a3, u⟩ ⟨e0, e5, f, e3⟩
    simp only at e0 e5 f e3
    subst e0
    have hcx := h.rf f
    have hm := lay_M hcx.1.1
    show ok (f_M_who_b7 N rec 133 a1 a2 a3 u) _
    unfold f_M_who_b7
    simp only [ok_gd, ok_bd, ok_rr1, ok_nr0, ok_nr1, ok_ret, true_and, and_true, not_false_eq_true, sh_sI, sh_sR, sh_sL, gR_sI, gR_sL, gI_sR, gI_sL, sh_cI, gR_cI, hm]
    refine ok_cdt (by rw [ti_le, ← hcx.2.2.2.1, e5]; omega) (ok_ret.mpr ⟨f, ?_⟩)
    rcases e3 with ⟨h1, h2⟩ | ⟨j, m, h1, h2, h3⟩
    · rw [h1, h2]; rfl
    · rw [h1, h2]; rfl
  · exact ⟨rfl, rfl, RF.rf, Or.inl ⟨rfl, rfl⟩⟩
theorem p_who (hN : 1000 ≤ N) (h : Sim w) : ok (f_X_who N 0 w) (fun r w1 => ok (f_M_who N 133 w1) (fun r' w2 => r = r' ∧ Sim w2)) := by
  obtain ⟨c, tp, b, kd, v, ob, ro, L, A, hx0⟩ := h.cx
  have hpi := h.pri
  refine (c_Xwho hN hx0 hpi).mono ?_
  rintro r1 u1 ⟨f1, hr1⟩
  have hx1 := hx0.rf f1
  refine (c_Mwho hN hx1 (hpi.rf f1)).mono ?_
  rintro r2 u2 ⟨f2, hr2⟩
  exact ⟨ti_eq.mpr (by rw [hr1, hr2]), hx1.1.rf f2⟩
end BEHIND
