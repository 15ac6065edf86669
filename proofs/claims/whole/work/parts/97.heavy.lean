/-! ===== heaviest, looked =====  -/
section HEAVY
variable {N c tp b p n W : Nat} {w u z : gW} {kd v ob : Nat → Nat} {ro : Nat → Nat → Int} {L : List Cl} {A : PS} {a a1 a2 : Int32}
abbrev p7 (i : Nat) : Nat := 7 * (i + 1)
noncomputable def hvS (L : List Cl) (kd v : Nat → Nat) (ro : Nat → Nat → Int) (A : PS) (p : Nat) : Nat → Int
  | 0 => wgt L (A.1 p)
  | k + 1 => max (hvS L kd v ro A p k) (wgt L ((rwS L kd v ro A p p7 (k + 1)).1.1 p))
theorem hv_ge : ∀ k, wgt L ((rwS L kd v ro A p p7 k).1.1 p) ≤ hvS L kd v ro A p k := by
  intro k
  cases k with
  | zero => exact Int.le_refl _
  | succ k => simp only [hvS]; omega
theorem hvS_s {k : Nat} : hvS L kd v ro A p (k + 1) = max (hvS L kd v ro A p k) (wgt L ((rwS L kd v ro A p p7 (k + 1)).1.1 p)) := rfl
theorem ti_7k {x : Int32} {k : Nat} (h : x.toInt = ((k + 1 : Nat) : Int)) (hk : k < 8) : (7 * x).toInt = ((p7 k : Nat) : Int) := by
  rw [ti_mul] <;> rw [ti_7, h] <;> (try unfold p7) <;> omega
theorem ti_max {a b : Int32} : (if a < b then b else a).toInt = max a.toInt b.toInt := by
  by_cases h : a < b
  · rw [if_pos h]; rw [ti_lt] at h; omega
  · rw [if_neg h]; rw [ti_lt] at h; omega
set_option maxHeartbeats 1000000 in
theorem c_Xheavy {a4 : Int32} (hN : 1000 ≤ N) (h : CX w c tp b kd v ob ro L A) (hp : p < c) (h1 : a1.toInt = (p : Int)) (h2 : a2.toInt = (n : Int)) (hn : 1 ≤ n ∧ n ≤ 8) (hca0 : CA w 47 c tp kd v ob ro L A) (h4 : a4.toInt = wgt L (A.1 p)) :
    ok (f_X_heaviest_l50 N 0 a1 a2 (ob p) a4 1 w) (fun r u => RF w u ∧ r.toInt = hvS L kd v ro A p n) := by
  have hc4 : c ≤ 4 := h.2.2.2.2.2.1
  unfold f_X_heaviest_l50
  refine itr_up (fun k q => q.1 = 0 ∧ q.2.1 = a1 ∧ q.2.2.1 = a2 ∧ q.2.2.2.1 = ob p ∧ q.2.2.2.2.2.1.toInt = ((k + 1 : Nat) : Int) ∧ RF w q.2.2.2.2.2.2 ∧ CA q.2.2.2.2.2.2 47 c tp kd v ob ro L (rwS L kd v ro A p p7 k).1 ∧ q.2.2.2.2.1.toInt = hvS L kd v ro A p k) n ?_ ?_ N 0 _ (by omega) ?_ (by omega)
  · rintro rec k ⟨b0, b1, b2, b3, a4, a5, u⟩ hk ⟨e0, e1, e2, e3, e5, f, hca, e4⟩ IH
    simp only at e0 e1 e2 e3 e5 f hca e4
    subst e0 e1 e2 e3
    have hx := lay_R hca.1
    have k9 : k + 1 < 2147483647 := by omega
    have hge := hv_ge (L := L) (kd := kd) (v := v) (ro := ro) (A := A) (p := p) k
    show ok (f_X_heaviest_b50 N rec 0 b1 b2 (ob p) a4 a5 u) _
    unfold f_X_heaviest_b50
    refine ok_cdf (by rw [ti_lt, h2, e5]; omega) ?_
    simp only [ok_gd, ok_bd, ok_rr1, ok_nr0, ok_nr1, ok_ret, true_and, and_true, not_false_eq_true, sh_sI, sh_sR, sh_sL, gR_sI, gR_sL, gI_sR, gI_sL, sh_cI, gR_cI, hx]
    refine ok_call (hca.choose hN hp (ti_7k e5 (by omega)) (by unfold p7; omega)) ?_
    rintro r1 u1 ⟨f1, hca1, hr1⟩
    have fr : RF w u1 := f.tr (scRM f1).rF
    rcases hr1 with ⟨hr1, hcn⟩ | ⟨hr1, y, hcn, hh⟩
    · refine ok_cdt (by rw [ti_eq, hr1, ti_0]) ?_
      simp only [ok_bd]
      refine IH _ ?_
      rw [hvS_s, rwS_0 hcn]
      exact ⟨rfl, rfl, rfl, rfl, ti_p1 e5 k9, fr, hca1, by simp only; omega⟩
    · refine ok_cdf (by rw [ti_eq, hr1, ti_0]; decide) ?_
      have hx1 := lay_R hca1.1
      simp only [ok_gd, ok_bd, ok_rr1, ok_nr0, ok_nr1, ok_ret, true_and, and_true, not_false_eq_true, sh_sI, sh_sR, sh_sL, gR_sI, gR_sL, gI_sR, gI_sL, sh_cI, gR_cI, hx1]
      refine ok_call (hca1.settle hN hp (by omega) hcn hh) ?_
      rintro - u2 ⟨f2, hca2⟩
      have hx2 := lay_R hca2.1
      simp only [ok_gd, ok_bd, ok_rr1, ok_nr0, ok_nr1, ok_ret, true_and, and_true, not_false_eq_true, sh_sI, sh_sR, sh_sL, gR_sI, gR_sL, gI_sR, gI_sL, sh_cI, gR_cI, hx2]
      refine ok_call (c_Wweight hN hca2 hp h1) ?_
      rintro r3 u3 ⟨rfl, hr3⟩
      simp only [ok_bd]
      refine IH _ ?_
      rw [hvS_s, rwS_1 hcn]
      exact ⟨rfl, rfl, rfl, rfl, ti_p1 e5 k9, fr.tr (setRF (by omega) f2), hca2, by simp only; rw [ti_max, e4, hr3]⟩
  · rintro rec ⟨b0, b1, b2, b3, a4, a5, u⟩ ⟨e0, e1, e2, e3, e5, f, hca, e4⟩
    simp only at e0 e1 e2 e3 e5 f hca e4
    subst e0 e1 e2 e3
    show ok (f_X_heaviest_b50 N rec 0 b1 b2 (ob p) a4 a5 u) _
    unfold f_X_heaviest_b50
    exact ok_cdt (by rw [ti_lt, h2, e5]; omega) (ok_ret.mpr ⟨f, e4⟩)
  · exact ⟨rfl, rfl, rfl, rfl, rfl, RF.rf, hca0, h4⟩
set_option maxHeartbeats 1000000 in
theorem c_Mheavy {a3 : Int32} {w0 : gW} (hN : 1000 ≤ N) (hma0 : MA w c b kd v ro L A) (f0 : Fr [157, 158, 159] [] w0 w) (sv : SV w0 w) (hp : p < c) (h1 : a1.toInt = (p : Int)) (h2 : a2.toInt = (n : Int)) (hn : 1 ≤ n ∧ n ≤ 8) (h4 : a3.toInt = wgt L (A.1 p)) :
    ok (f_M_heaviest_l37 N 133 a1 a2 a3 1 w) (fun r u => RM w0 u ∧ r.toInt = hvS L kd v ro A p n) := by
  unfold f_M_heaviest_l37
  refine itr_up (fun k q => q.1 = 133 ∧ q.2.1 = a1 ∧ q.2.2.1 = a2 ∧ q.2.2.2.2.1.toInt = ((k + 1 : Nat) : Int) ∧ GF w q.2.2.2.2.2 ∧ MA q.2.2.2.2.2 c b kd v ro L (rwS L kd v ro A p p7 k).1 ∧ q.2.2.2.1.toInt = hvS L kd v ro A p k) n ?_ ?_ N 0 _ (by omega) ?_ (by omega)
  · rintro rec k ⟨b0, b1, b2, a3, a4, u⟩ hk ⟨e0, e1, e2, e5, g, hma, e4⟩ IH
    simp only at e0 e1 e2 e5 g hma e4
    subst e0 e1 e2
    have hm := lay_M hma.1
    have k9 : k + 1 < 2147483647 := by omega
    have hge := hv_ge (L := L) (kd := kd) (v := v) (ro := ro) (A := A) (p := p) k
    -- behind a payment, made or not
    have fin : ∀ (u2 : gW), GF w u2 → MA u2 c b kd v ro L (rwS L kd v ro A p p7 (k + 1)).1 → ok (gd ((sh u2 133).1 = 12) (kl (f_M_weight N 133 b1 u2) fun x26 w27 => cd (x26 ≤ a3) (bd (a4 + 1) fun x30 => rec (133, b1, b2, a3, x30, w27)) (bd (a4 + 1) fun x31 => rec (133, b1, b2, x26, x31, w27)))) (fun r u => RM w0 u ∧ r.toInt = hvS L kd v ro A p n) := by
      intro u2 g2 hma2
      have hm2 := lay_M hma2.1
      simp only [ok_gd, ok_bd, ok_rr1, ok_nr0, ok_nr1, ok_ret, true_and, and_true, not_false_eq_true, sh_sI, sh_sR, sh_sL, gR_sI, gR_sL, gI_sR, gI_sL, sh_cI, gR_cI, hm2]
      refine ok_call (c_Mweight hN (hma2.mp hp) h1) ?_
      rintro r3 u3 ⟨f3, hr3⟩
      have g3 : GF w u3 := g2.tr (MT.gf (f3.up (by simp) (by simp)))
      have hma3 := hma2.mt (f3.up (by simp) (by simp))
      rw [ok_cd]
      refine ⟨fun cc => ?_, fun cc => ?_⟩
      · rw [ti_le, hr3, e4] at cc
        simp only [ok_bd]
        refine IH _ ?_
        exact ⟨rfl, rfl, rfl, ti_p1 e5 k9, g3, hma3, by simp only; rw [hvS_s]; omega⟩
      · rw [ti_le, hr3, e4] at cc
        simp only [ok_bd]
        refine IH _ ?_
        exact ⟨rfl, rfl, rfl, ti_p1 e5 k9, g3, hma3, by simp only; rw [hvS_s]; omega⟩
    show ok (f_M_heaviest_b37 N rec 133 b1 b2 a3 a4 u) _
    unfold f_M_heaviest_b37
    refine ok_cdf (by rw [ti_lt, h2, e5]; omega) ?_
    simp only [ok_gd, ok_bd, ok_rr1, ok_nr0, ok_nr1, ok_ret, true_and, and_true, not_false_eq_true, sh_sI, sh_sR, sh_sL, gR_sI, gR_sL, gI_sR, gI_sL, sh_cI, gR_cI, hm]
    refine ok_call (hma.goes hN hp h1 (ti_7k e5 (by omega)) (by unfold p7; omega)) ?_
    rintro r1 u2 ⟨g2, hr1⟩
    rcases hr1 with ⟨hr1, hcn, hma2⟩ | ⟨hr1, y, hcn, -, hma2⟩
    · exact fin u2 (g.tr g2) (by rw [rwS_0 hcn]; exact hma2)
    · exact fin u2 (g.tr g2) (by rw [rwS_1 hcn]; exact hma2)
  · rintro rec ⟨b0, b1, b2, a3, a4, u⟩ ⟨e0, e1, e2, e5, g, hma, e4⟩
    simp only at e0 e1 e2 e5 g hma e4
    subst e0 e1 e2
    have hm := lay_M hma.1
    show ok (f_M_heaviest_b37 N rec 133 b1 b2 a3 a4 u) _
    unfold f_M_heaviest_b37
    refine ok_cdt (by rw [ti_lt, h2, e5]; omega) ?_
    simp only [ok_gd, ok_bd, ok_rr1, ok_nr0, ok_nr1, ok_ret, true_and, and_true, not_false_eq_true, sh_sI, sh_sR, sh_sL, gR_sI, gR_sL, gI_sR, gI_sL, sh_cI, gR_cI, hm]
    refine ok_call (c_putBack hN hma.1) ?_
    rintro - u5 ⟨f5, e4', e5'⟩
    exact ok_ret.mpr ⟨back_rm f0 sv g Fr.rf f5 e4' e5', e4⟩
  · exact ⟨rfl, rfl, rfl, rfl, GF.rf, hma0, h4⟩
theorem p_heaviest (hN : 1000 ≤ N) (h : Sim w) : ok (f_X_heaviest N 0 a1 a2 w) (fun r w1 => ok (f_M_heaviest N 133 a1 a2 w1) (fun r' w2 => r = r' ∧ Sim w2)) := by
  obtain ⟨c, tp, b, kd, v, ob, ro, L, A, hx0⟩ := h.cx
  have ti_8' : (8 : Int32).toInt = 8 := rfl
  have mod : ∀ (z : gW) (r : Int32), CX z c tp b kd v ob ro L A → (¬ (0 ≤ a1.toInt ∧ a1.toInt < (c : Int)) → r = -1) → ((0 ≤ a1.toInt ∧ a1.toInt < (c : Int)) → ¬ (1 ≤ a2.toInt ∧ a2.toInt ≤ 8) → r = -2) → (∀ p, p < c → a1.toInt = ((p : Nat) : Int) → ∀ n : Nat, a2.toInt = (n : Int) → 1 ≤ n ∧ n ≤ 8 → r.toInt = hvS L kd v ro A p n) → ok (f_M_heaviest N 133 a1 a2 z) (fun r' w2 => r = r' ∧ Sim w2) := by
    intro z r hxz h1 h2 h3
    have hm := lay_M hxz.1.1
    unfold f_M_heaviest f_M_heaviest_b0
    simp only [ok_gd, ok_bd, ok_rr1, ok_nr0, ok_nr1, ok_ret, true_and, and_true, not_false_eq_true, sh_sI, sh_sR, sh_sL, gR_sI, gR_sL, gI_sR, gI_sL, sh_cI, gR_cI, hm]
    refine ok_call hxz.mp ?_
    rintro r1 u1 ⟨rfl, hr1⟩
    rw [ok_cd]
    refine ⟨fun cc => ok_ret.mpr ⟨h1 (hr1.z.mp cc), hxz.1⟩, fun cc => ?_⟩
    have c' := Classical.not_not.mp (fun z => cc (hr1.z.mpr z))
    simp only [ok_gd, ok_bd, ok_rr1, ok_nr0, ok_nr1, ok_ret, true_and, and_true, not_false_eq_true, sh_sI, sh_sR, sh_sL, gR_sI, gR_sL, gI_sR, gI_sL, sh_cI, gR_cI, hm]
    refine ok_call c_Min ?_
    rintro r2 u2 ⟨rfl, hr2⟩
    rw [ti_1, ti_8'] at hr2
    rw [ok_cd]
    refine ⟨fun d => ok_ret.mpr ⟨h2 c' (hr2.z.mp d), hxz.1⟩, fun d => ?_⟩
    have d' := Classical.not_not.mp (fun z => d (hr2.z.mpr z))
    obtain ⟨p, hpp⟩ : ∃ p : Nat, a1.toInt = (p : Int) := ⟨a1.toInt.toNat, by omega⟩
    obtain ⟨n, hnn⟩ : ∃ n : Nat, a2.toInt = (n : Int) := ⟨a2.toInt.toNat, by omega⟩
    have hp : p < c := by omega
    simp only [ok_gd, ok_bd, ok_rr1, ok_nr0, ok_nr1, ok_ret, true_and, and_true, not_false_eq_true, sh_sI, sh_sR, sh_sL, gR_sI, gR_sL, gI_sR, gI_sL, sh_cI, gR_cI, hm]
    refine ok_call (c_Mweight hN (hxz.2.2.1.mp hp) hpp) ?_
    rintro r3 u3 ⟨f3, hr3⟩
    have rm3 : RM u2 u3 := scRM (f3.up (by simp) (by simp))
    have hma3 := hxz.2.2.1.rm rm3
    have hm3 := lay_M hma3.1
    simp only [ok_gd, ok_bd, ok_rr1, ok_nr0, ok_nr1, ok_ret, true_and, and_true, not_false_eq_true, sh_sI, sh_sR, sh_sL, gR_sI, gR_sL, gI_sR, gI_sL, sh_cI, gR_cI, hm3]
    refine ok_call (c_save hN hma3.1) ?_
    rintro - u4 ⟨f4, sv⟩
    have hma4 : MA u4 c b kd v ro L A := hma3.sc (f4.up (by simp) (by simp))
    refine (c_Mheavy hN hma4 f4 sv hp hpp hnn (by omega) hr3).mono ?_
    rintro r5 u5 ⟨rm5, hr5⟩
    exact ⟨ti_eq.mpr (by rw [h3 p hp hpp n hnn (by omega), hr5]), hxz.1.rf (rm3.tr rm5).rF⟩
  have hx := lay_R h.1
  unfold f_X_heaviest f_X_heaviest_b0
  simp only [ok_gd, ok_bd, ok_rr1, ok_nr0, ok_nr1, ok_ret, true_and, and_true, not_false_eq_true, sh_sI, sh_sR, sh_sL, gR_sI, gR_sL, gI_sR, gI_sL, sh_cI, gR_cI, hx]
  refine ok_call hx0.xp ?_
  rintro r1 u1 ⟨rfl, hr1⟩
  rcases hr1 with ⟨p, hp, ha, rfl⟩ | ⟨hr1, rfl⟩
  · simp only [ok_gd, ok_bd, ok_rr1, ok_nr0, ok_nr1, ok_ret, true_and, and_true, not_false_eq_true, sh_sI, sh_sR, sh_sL, gR_sI, gR_sL, gI_sR, gI_sL, sh_cI, gR_cI]
    rw [ok_cd]
    refine ⟨fun d => ?_, fun d => ?_⟩
    · rw [ti_lt, ti_1] at d
      exact ok_ret.mpr (mod u1 _ hx0 (fun z => absurd ⟨by omega, by omega⟩ z) (fun _ _ => rfl) (fun _ _ _ n hn hn2 => absurd hn (by omega)))
    · rw [ti_lt, ti_1] at d
      rw [ok_cd]
      refine ⟨fun g => ?_, fun g => ?_⟩
      · rw [ti_le, ti_8'] at g
        obtain ⟨n, hnn⟩ : ∃ n : Nat, a2.toInt = (n : Int) := ⟨a2.toInt.toNat, by omega⟩
        simp only [ok_gd, ok_bd, ok_rr1, ok_nr0, ok_nr1, ok_ret, true_and, and_true, not_false_eq_true, sh_sI, sh_sR, sh_sL, gR_sI, gR_sL, gI_sR, gI_sL, sh_cI, gR_cI, hx]
        refine ok_call (hx0.tri hN) ?_
        rintro - u2 ⟨f2, hca2, -⟩
        have hx2 := hx0.rf f2
        have hl2 := lay_R hca2.1
        simp only [ok_gd, ok_bd, ok_rr1, ok_nr0, ok_nr1, ok_ret, true_and, and_true, not_false_eq_true, sh_sI, sh_sR, sh_sL, gR_sI, gR_sL, gI_sR, gI_sL, sh_cI, gR_cI, hl2]
        refine ok_call (c_Wweight hN hca2 hp ha) ?_
        rintro r3 u3 ⟨rfl, hr3⟩
        refine (c_Xheavy hN hx2 hp ha hnn (by omega) hca2 hr3).mono ?_
        rintro r4 u4 ⟨f4, hr4⟩
        refine mod u4 _ (hx2.rf f4) (fun z => absurd ⟨by omega, by omega⟩ z) (fun _ z => absurd ⟨by omega, g⟩ z) (fun p' hp' ha' n' hn' hn2 => ?_)
        have e1 : p' = p := by omega
        have e2 : n' = n := by omega
        rw [e1, e2]; exact hr4
      · rw [ti_le, ti_8'] at g
        exact ok_ret.mpr (mod u1 _ hx0 (fun z => absurd ⟨by omega, by omega⟩ z) (fun _ _ => rfl) (fun _ _ _ n hn hn2 => absurd hn (by omega)))
  · simp only [ok_gd, ok_bd, ok_rr1, ok_nr0, ok_nr1, ok_ret, true_and, and_true, not_false_eq_true, sh_sI, sh_sR, sh_sL, gR_sI, gR_sL, gI_sR, gI_sL, sh_cI, gR_cI]
    exact mod u1 _ hx0 (fun _ => rfl) (fun z => absurd z hr1) (fun p hp ha _ _ _ => absurd ⟨by omega, by omega⟩ hr1)
end HEAVY
