/-! ===== of, told =====  -/
theorem ti_10' : (10 : Int32).toInt = 10 := rfl
theorem sub_in {a b : Int32} {d : Int} (hb : b.toInt = d) (hd : 0 ≤ d ∧ d ≤ 100) : (0 ≤ (a - b).toInt ∧ (a - b).toInt < 6) ↔ (d ≤ a.toInt ∧ a.toInt < d + 6) := by
  have ha := J_in a
  by_cases h : -2147483648 ≤ a.toInt - d
  · have e : (a - b).toInt = a.toInt - d := by rw [ti_sub] <;> rw [hb] <;> omega
    rw [e]; omega
  · have e : (a - b).toInt = a.toInt - d + 4294967296 := by
      have hmod : (a.toInt - d) % 4294967296 = a.toInt - d + 4294967296 := by omega
      have h32 : ((2 ^ 32 : Nat) : Int) = 4294967296 := rfl
      rw [Int32.toInt_sub, hb]
      unfold Int.bmod
      simp only [h32, hmod]
      rw [if_pos (by omega)]
    rw [e]; omega
theorem sub_n {a b : Int32} {d s : Nat} (hb : b.toInt = (d : Int)) (hd : d ≤ 100) (ha : a.toInt = ((d + s : Nat) : Int)) (hs : s < 100) : (a - b).toInt = (s : Int) := by
  rw [ti_sub] <;> rw [ha, hb] <;> omega
section OF
variable {N c tp b p : Nat} {w u z : gW} {kd v ob : Nat → Nat} {ro : Nat → Nat → Int} {L : List Cl} {A : PS} {a1 a2 : Int32}
def ofA (L : List Cl) (kd v : Nat → Nat) (A : PS) (p : Nat) (q : Int) : Int :=
  if 10 ≤ q ∧ q < 16 then A.1 p (q - 10).toNat else if 20 ≤ q ∧ q < 26 then kpF L A.2.1 p (kd p) (A.2.2 p) (q - 20).toNat else if q = 0 then (kd p : Int) else if q = 1 then (v p : Int) else if q = 2 then (A.2.2 p : Int) else if q = 3 then wgt L (A.1 p) else if q = 4 then cnS (A.1 p) else -1
theorem ofA_1 {s : Nat} (h : s < 6) : ofA L kd v A p ((10 + s : Nat) : Int) = A.1 p s := by unfold ofA; rw [if_pos (by omega), show (((10 + s : Nat) : Int) - 10).toNat = s by omega]
theorem ofA_2 {s : Nat} (h : s < 6) : ofA L kd v A p ((20 + s : Nat) : Int) = kpF L A.2.1 p (kd p) (A.2.2 p) s := by unfold ofA; rw [if_neg (by omega), if_pos (by omega), show (((20 + s : Nat) : Int) - 20).toNat = s by omega]
theorem ofA_3 {q : Int} (h1 : ¬ (10 ≤ q ∧ q < 16)) (h2 : ¬ (20 ≤ q ∧ q < 26)) : ofA L kd v A p q = if q = 0 then (kd p : Int) else if q = 1 then (v p : Int) else if q = 2 then (A.2.2 p : Int) else if q = 3 then wgt L (A.1 p) else if q = 4 then cnS (A.1 p) else -1 := by unfold ofA; rw [if_neg h1, if_neg h2]
theorem ti_20' : (20 : Int32).toInt = 20 := rfl
set_option maxHeartbeats 1000000 in
theorem p_of (hN : 1000 ≤ N) (h : Sim w) : ok (f_X_of N 0 a1 a2 w) (fun r w1 => ok (f_M_of N 133 a1 a2 w1) (fun r' w2 => r = r' ∧ Sim w2)) := by
  obtain ⟨c, tp, b, kd, v, ob, ro, L, A, hx0⟩ := h.cx
  have hc4 : c ≤ 4 := hx0.2.2.2.2.2.1
  have mod : ∀ (z : gW) (r : Int32), CX z c tp b kd v ob ro L A → (¬ (0 ≤ a1.toInt ∧ a1.toInt < (c : Int)) → r = -1) → (∀ p, p < c → a1.toInt = ((p : Nat) : Int) → r.toInt = ofA L kd v A p a2.toInt) → ok (f_M_of N 133 a1 a2 z) (fun r' w2 => r = r' ∧ Sim w2) := by
    intro z r hxz h1 h2
    have hm := lay_M hxz.1.1
    unfold f_M_of f_M_of_b0
    simp only [ok_gd, ok_bd, ok_rr1, ok_nr0, ok_nr1, ok_ret, true_and, and_true, not_false_eq_true, sh_sI, sh_sR, sh_sL, gR_sI, gR_sL, gI_sR, gI_sL, sh_cI, gR_cI, hm]
    refine ok_call hxz.mp ?_
    rintro r1 u1 ⟨rfl, hr1⟩
    rw [ok_cd]
    refine ⟨fun cc => ok_ret.mpr ⟨h1 (hr1.z.mp cc), hxz.1⟩, fun cc => ?_⟩
    have c' := Classical.not_not.mp (fun z => cc (hr1.z.mpr z))
    obtain ⟨p, hpp⟩ : ∃ p : Nat, a1.toInt = (p : Int) := ⟨a1.toInt.toNat, by omega⟩
    have hp : p < c := by omega
    have hr := h2 p hp hpp
    have n1 := nat_of hpp
    have g1 := ix_of (m := 4) hpp (by omega)
    rw [n1] at g1
    obtain ⟨-, hv, hwr, -, hpy, q1, q2, q3, hrg, -⟩ := hxz.2.2.1
    simp only [ok_gd, ok_bd, ok_rr1, ok_nr0, ok_nr1, ok_ret, true_and, and_true, not_false_eq_true, sh_sI, sh_sR, sh_sL, gR_sI, gR_sL, gI_sR, gI_sL, sh_cI, gR_cI, hm]
    refine ok_call c_Min ?_
    rintro r2 u2 ⟨rfl, hr2⟩
    rw [ti_10', show (15 : Int32).toInt = 15 from rfl] at hr2
    rw [ok_cd]
    refine ⟨fun d => ?_, fun d => ?_⟩
    · have d' := hr2.z.mp d
      simp only [ok_gd, ok_bd, ok_rr1, ok_nr0, ok_nr1, ok_ret, true_and, and_true, not_false_eq_true, sh_sI, sh_sR, sh_sL, gR_sI, gR_sL, gI_sR, gI_sL, sh_cI, gR_cI, hm]
      refine ok_call c_Min ?_
      rintro r3 u3 ⟨rfl, hr3⟩
      rw [ti_20', show (25 : Int32).toInt = 25 from rfl] at hr3
      rw [ok_cd]
      refine ⟨fun e => ?_, fun e => ?_⟩
      · have e' := hr3.z.mp e
        rw [ofA_3 (by omega) (by omega)] at hr
        have fin : ∀ (x : Int32), r.toInt = x.toInt → ok (some (x, u3)) (fun r' w2 => r = r' ∧ Sim w2) := fun x hx => ok_ret.mpr ⟨ti_eq.mpr hx, hxz.1⟩
        rw [ok_cd]
        refine ⟨fun g => ?_, fun g => ?_⟩
        · rw [ti_eq, ti_0] at g
          rw [if_pos g] at hr
          simp only [ok_gd, ok_bd, ok_rr1, hm, n1, g1, true_and, not_false_eq_true]
          exact fin _ (by rw [hr]; exact (hpy p hp).1.symm)
        · rw [ti_eq, ti_0] at g
          rw [if_neg g] at hr
          rw [ok_cd]
          refine ⟨fun g => ?_, fun g => ?_⟩
          · rw [ti_eq, ti_1] at g
            rw [if_pos g] at hr
            simp only [ok_gd, ok_bd, ok_rr1, hm, n1, g1, true_and, not_false_eq_true]
            exact fin _ (by rw [hr]; exact (hpy p hp).2.2.1.symm)
          · rw [ti_eq, ti_1] at g
            rw [if_neg g] at hr
            rw [ok_cd]
            refine ⟨fun g => ?_, fun g => ?_⟩
            · rw [ti_eq, ti_2] at g
              rw [if_pos g] at hr
              simp only [ok_gd, ok_bd, ok_rr1, hm, n1, g1, true_and, not_false_eq_true]
              exact fin _ (by rw [hr]; exact (q3 p (by omega)).symm)
            · rw [ti_eq, ti_2] at g
              rw [if_neg g] at hr
              rw [ok_cd]
              refine ⟨fun g => ?_, fun g => ?_⟩
              · rw [ti_eq, ti_3] at g
                rw [if_pos g] at hr
                simp only [ok_gd, hm, true_and]
                refine ok_call (c_Mweight hN (hxz.2.2.1.mp hp) hpp) ?_
                rintro r4 u4 ⟨f4, hr4⟩
                exact ok_ret.mpr ⟨ti_eq.mpr (by rw [hr, hr4]), hxz.1.rf (scRM (f4.up (by simp) (by simp))).rF⟩
              · rw [ti_eq, ti_3] at g
                rw [if_neg g] at hr
                rw [ok_cd]
                refine ⟨fun g => ?_, fun g => ?_⟩
                · rw [ti_eq, ti_4] at g
                  rw [if_pos g] at hr
                  simp only [ok_gd, hm, true_and]
                  refine ok_call (c_Mcoins hN (hxz.2.2.1.mp hp) hpp) ?_
                  rintro r4 u4 ⟨rfl, hr4⟩
                  exact fin _ (by rw [hr, hr4]; rfl)
                · rw [ti_eq, ti_4] at g
                  rw [if_neg g] at hr
                  exact fin _ (by rw [hr]; rfl)
      · have e' := Classical.not_not.mp (fun z => e (hr3.z.mpr z))
        obtain ⟨s, hs⟩ : ∃ s : Nat, a2.toInt = ((20 + s : Nat) : Int) := ⟨a2.toInt.toNat - 20, by omega⟩
        have hs6 : s < 6 := by omega
        rw [hs, ofA_2 hs6] at hr
        simp only [ok_gd, ok_bd, ok_rr1, ok_nr0, ok_nr1, ok_ret, true_and, and_true, not_false_eq_true, sh_sI, sh_sR, sh_sL, gR_sI, gR_sL, gI_sR, gI_sL, sh_cI, gR_cI, hm]
        refine ok_call (c_mkept (s := s) hN hxz.1.1 hv hwr (fun q hq => by rw [q3 q hq]; omega) hpp (by omega) (sub_n (d := 20) ti_20' (by omega) hs (by omega)) hs6) ?_
        rintro r4 u4 ⟨f4, hr4⟩
        refine ok_ret.mpr ⟨ti_eq.mpr ?_, hxz.1.rf (scRM (f4.up (by simp) (by simp))).rF⟩
        rw [hr, hr4, q2 s hs6, (hpy p hp).1, q3 p (by omega)]; rfl
    · have d' := Classical.not_not.mp (fun z => d (hr2.z.mpr z))
      obtain ⟨s, hs⟩ : ∃ s : Nat, a2.toInt = ((10 + s : Nat) : Int) := ⟨a2.toInt.toNat - 10, by omega⟩
      have hs6 : s < 6 := by omega
      rw [hs, ofA_1 hs6] at hr
      have e1 := ti_6p hpp (by omega) hs (by omega)
      have e2 : (6 * a1 + a2 - 10).toInt = ((6 * p + s : Nat) : Int) := by rw [ti_sub] <;> rw [e1, ti_10'] <;> omega
      have n2 := nat_of e2
      have g2 := ix_of (m := 24) e2 (by omega)
      rw [n2] at g2
      simp only [ok_gd, ok_bd, ok_rr1, ok_nr0, ok_nr1, ok_ret, true_and, and_true, not_false_eq_true, sh_sI, sh_sR, sh_sL, gR_sI, gR_sL, gI_sR, gI_sL, sh_cI, gR_cI, hm, n2, g2]
      exact ⟨ti_eq.mpr (by rw [hr, q1 p s (by omega) hs6]), hxz.1⟩
  have hx := lay_X h.1
  unfold f_X_of f_X_of_b0
  simp only [ok_gd, ok_bd, ok_rr1, ok_nr0, ok_nr1, ok_ret, true_and, and_true, not_false_eq_true, sh_sI, sh_sR, sh_sL, gR_sI, gR_sL, gI_sR, gI_sL, sh_cI, gR_cI, hx]
  refine ok_call hx0.xp ?_
  rintro r1 u1 ⟨rfl, hr1⟩
  rcases hr1 with ⟨p, hp, ha, rfl⟩ | ⟨hr1, rfl⟩
  · have go : ∀ (r : Int32) (u : gW), RF u1 u → r.toInt = ofA L kd v A p a2.toInt → ok (some (r, u)) (fun r w1 => ok (f_M_of N 133 a1 a2 w1) (fun r' w2 => r = r' ∧ Sim w2)) := by
      intro r u f hr
      refine ok_ret.mpr (mod u r (hx0.rf f) (fun z => absurd ⟨by omega, by omega⟩ z) (fun q hq hqa => ?_))
      have e : q = p := by omega
      rw [e]; exact hr
    have hp4 : p < 4 := by omega
    obtain ⟨-, hW, hT, -, h14, hTW, hPY, q1, q2, q3, hrg, -⟩ := hx0.2.1
    obtain ⟨o1, o2, o3, o4, o5, o6, o7⟩ := hPY p hp
    have hw9 := lay_W h.1 (Or.inl rfl)
    have hwp := lay_Wp h.1 (W := 9) (Or.inl rfl) hp4
    have ht := lay_T h.1 hT
    have n1 := nat_of ha
    have g1 := ix_of (m := 4) ha hp4
    rw [n1] at g1
    have o2' : (sh u1 (ob p)).1 < 7 := by omega
    simp only [ok_gd, ok_bd, ok_rr1, ok_nr0, ok_nr1, ok_ret, true_and, and_true, not_false_eq_true, sh_sI, sh_sR, sh_sL, gR_sI, gR_sL, gI_sR, gI_sL, sh_cI, gR_cI]
    refine ok_call c_Xsort ?_
    rintro r2 u2 ⟨rfl, hr2⟩
    rw [sub_in (d := 10) ti_10' (by omega)] at hr2
    rw [ok_cd]
    refine ⟨fun d => ?_, fun d => ?_⟩
    · have d' := hr2.z.mp d
      simp only [ok_gd, ok_bd, ok_rr1, ok_nr0, ok_nr1, ok_ret, true_and, and_true, not_false_eq_true, sh_sI, sh_sR, sh_sL, gR_sI, gR_sL, gI_sR, gI_sL, sh_cI, gR_cI]
      refine ok_call c_Xsort ?_
      rintro r3 u3 ⟨rfl, hr3⟩
      rw [sub_in (d := 20) ti_20' (by omega)] at hr3
      rw [ok_cd]
      refine ⟨fun e => ?_, fun e => ?_⟩
      · have e' := hr3.z.mp e
        have hr := ofA_3 (L := L) (kd := kd) (v := v) (A := A) (p := p) (q := a2.toInt) (by omega) (by omega)
        rw [ok_cd]
        refine ⟨fun g => ?_, fun g => ?_⟩
        · rw [ti_eq, ti_0] at g
          rw [if_pos g] at hr
          simp only [ok_gd, ok_bd, true_and, o2']
          exact go _ _ RF.rf (by rw [hr]; exact o4)
        · rw [ti_eq, ti_0] at g
          rw [if_neg g] at hr
          rw [ok_cd]
          refine ⟨fun g => ?_, fun g => ?_⟩
          · rw [ti_eq, ti_1] at g
            rw [if_pos g] at hr
            simp only [ok_gd, ok_bd, true_and, o2']
            exact go _ _ RF.rf (by rw [hr]; exact o6)
          · rw [ti_eq, ti_1] at g
            rw [if_neg g] at hr
            rw [ok_cd]
            refine ⟨fun g => ?_, fun g => ?_⟩
            · rw [ti_eq, ti_2] at g
              rw [if_pos g] at hr
              simp only [ok_gd, ok_bd, ok_rr1, true_and, hx, hw9, n1, g1, not_false_eq_true]
              exact go _ _ RF.rf (by rw [hr]; exact q3 p hp4)
            · rw [ti_eq, ti_2] at g
              rw [if_neg g] at hr
              rw [ok_cd]
              refine ⟨fun g => ?_, fun g => ?_⟩
              · rw [ti_eq, ti_3] at g
                rw [if_pos g] at hr
                simp only [ok_gd, ok_rr1, true_and, hx]
                refine ok_call (c_Wweight hN hx0.2.1 hp ha) ?_
                rintro r4 u4 ⟨rfl, hr4⟩
                exact go _ _ RF.rf (by rw [hr]; exact hr4)
              · rw [ti_eq, ti_3] at g
                rw [if_neg g] at hr
                rw [ok_cd]
                refine ⟨fun g => ?_, fun g => ?_⟩
                · rw [ti_eq, ti_4] at g
                  rw [if_pos g] at hr
                  simp only [ok_gd, ok_rr1, true_and, hx]
                  refine ok_call (c_Wco hN hx0.2.1 hp ha) ?_
                  rintro r4 u4 ⟨rfl, hr4⟩
                  exact go _ _ RF.rf (by rw [hr]; exact hr4)
                · rw [ti_eq, ti_4] at g
                  rw [if_neg g] at hr
                  exact go _ _ RF.rf (by rw [hr]; rfl)
      · have e' := Classical.not_not.mp (fun z => e (hr3.z.mpr z))
        obtain ⟨s, hs⟩ : ∃ s : Nat, a2.toInt = ((20 + s : Nat) : Int) := ⟨a2.toInt.toNat - 20, by omega⟩
        have hs6 : s < 6 := by omega
        simp only [ok_gd, ok_bd, ok_rr1, true_and, hx, h14, ht]
        refine ok_call (c_kept (s := s) hN h.1 hT hW (sub_n (d := 20) ti_20' (by omega) hs (by omega)) hs6 o1 (by omega) o5 hp4 (by rw [q3 p hp4]; omega) hTW.1 hTW.2.1 hTW.2.2.1 hTW.2.2.2.1) ?_
        rintro r4 u4 ⟨f4, hr4⟩
        refine go _ _ (scRM (f4.up (by simpa using T7 hT) (by simp))).rF ?_
        rw [hs, ofA_2 hs6, hr4, q2 s hs6, o4, q3 p hp4]; rfl
    · have d' := Classical.not_not.mp (fun z => d (hr2.z.mpr z))
      obtain ⟨s, hs⟩ : ∃ s : Nat, a2.toInt = ((10 + s : Nat) : Int) := ⟨a2.toInt.toNat - 10, by omega⟩
      have hs6 : s < 6 := by omega
      have e2 := sub_n (d := 10) ti_10' (by omega) hs (by omega)
      have n2 := nat_of e2
      have g2 := ix_of (m := 6) e2 hs6
      rw [n2] at g2
      simp only [ok_gd, ok_bd, ok_rr1, true_and, hx, hw9, hwp, n1, g1, n2, g2, not_false_eq_true]
      exact go _ _ RF.rf (by rw [hs, ofA_1 hs6]; exact q1 p s hp4 hs6)
  · simp only [ok_gd, ok_bd, ok_rr1, ok_nr0, ok_nr1, ok_ret, true_and, and_true, not_false_eq_true, sh_sI, sh_sR, sh_sL, gR_sI, gR_sL, gI_sR, gI_sL, sh_cI, gR_cI]
    exact mod u1 _ hx0 (fun _ => rfl) (fun p hp ha => absurd ⟨by omega, by omega⟩ hr1)
end OF
