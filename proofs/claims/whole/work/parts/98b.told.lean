/-! ===== told =====  -/
section TOLD
variable {N c tp b p : Nat} {w u z : gW} {kd v ob : Nat → Nat} {ro : Nat → Nat → Int} {L : List Cl} {A : PS} {a1 a2 : Int32}
set_option maxHeartbeats 1000000 in
theorem p_told (hN : 1000 ≤ N) (h : Sim w) : ok (f_X_told N 0 a1 w) (fun r w1 => ok (f_M_told N 133 a1 w1) (fun r' w2 => r = r' ∧ Sim w2)) := by
  obtain ⟨c, tp, b, kd, v, ob, ro, L, A, hx0⟩ := h.cx
  obtain ⟨-, hv, hwr, -, hpy, q1, q2, q3, hrg, -⟩ := hx0.2.2.1
  obtain ⟨-, hW, hT, -, h14, hTW, hPY, k1, k2, k3, -, -⟩ := hx0.2.1
  have hx := lay_X h.1
  have hm := lay_M h.1
  have hw9 := lay_W h.1 (Or.inl rfl)
  have ht := lay_T h.1 hT
  have ti_15' : (15 : Int32).toInt = 15 := rfl
  have ti_25' : (25 : Int32).toInt = 25 := rfl
  unfold f_X_told f_X_told_b0
  rw [ok_cd]
  refine ⟨fun g => ?_, fun g => ?_⟩
  · simp only [ok_gd, ok_bd, ok_rr1, ok_ret, true_and, hx, h14, ht]
    unfold f_M_told f_M_told_b0
    refine ok_cdt g ?_
    simp only [ok_gd, true_and, hm]
    refine ok_call (c_mostNow hN h.1 hv) ?_
    rintro r u ⟨rfl, hr⟩
    exact ok_ret.mpr ⟨ti_eq.mpr (by rw [hr]; exact hTW.2.2.2.2.1), h⟩
  · have mod : ∀ (r : Int32), (¬ (10 ≤ a1.toInt ∧ a1.toInt < 16) → ¬ (20 ≤ a1.toInt ∧ a1.toInt < 26) → r = -1) → (∀ s : Nat, s < 6 → a1.toInt = ((10 + s : Nat) : Int) → r.toInt = A.2.1 s) → (∀ s : Nat, s < 6 → a1.toInt = ((20 + s : Nat) : Int) → r.toInt = heftF L s) → ok (f_M_told N 133 a1 w) (fun r' w2 => r = r' ∧ Sim w2) := by
      intro r h1 h2 h3
      unfold f_M_told f_M_told_b0
      refine ok_cdf g ?_
      simp only [ok_gd, true_and, hm]
      refine ok_call c_Min ?_
      rintro r2 u2 ⟨rfl, hr2⟩
      rw [ti_10', ti_15'] at hr2
      rw [ok_cd]
      refine ⟨fun d => ?_, fun d => ?_⟩
      · have d' := hr2.z.mp d
        simp only [ok_gd, true_and, hm]
        refine ok_call c_Min ?_
        rintro r3 u3 ⟨rfl, hr3⟩
        rw [ti_20', ti_25'] at hr3
        rw [ok_cd]
        refine ⟨fun e => ok_ret.mpr ⟨h1 (by omega) (by have := hr3.z.mp e; omega), h⟩, fun e => ?_⟩
        have e' := Classical.not_not.mp (fun z => e (hr3.z.mpr z))
        obtain ⟨s, hs⟩ : ∃ s : Nat, a1.toInt = ((20 + s : Nat) : Int) := ⟨a1.toInt.toNat - 20, by omega⟩
        have hs6 : s < 6 := by omega
        simp only [ok_bd, ok_gd, true_and, hm]
        refine ok_call (c_heft (s := s) hN h.1 hv hwr (fun q hq => by rw [q3 q hq]; omega) (sub_n (d := 20) ti_20' (by omega) hs (by omega)) hs6) ?_
        rintro r4 u4 ⟨f4, hr4⟩
        exact ok_ret.mpr ⟨ti_eq.mpr (by rw [h3 s hs6 hs, hr4]), h.rf (scRM (f4.up (by simp) (by simp))).rF⟩
      · have d' := Classical.not_not.mp (fun z => d (hr2.z.mpr z))
        obtain ⟨s, hs⟩ : ∃ s : Nat, a1.toInt = ((10 + s : Nat) : Int) := ⟨a1.toInt.toNat - 10, by omega⟩
        have hs6 : s < 6 := by omega
        have e2 := sub_n (d := 10) ti_10' (by omega) hs (by omega)
        have n2 := nat_of e2
        have g2 := ix_of (m := 6) e2 hs6
        rw [n2] at g2
        simp only [ok_gd, ok_bd, ok_rr1, ok_nr0, ok_nr1, ok_ret, true_and, and_true, not_false_eq_true, sh_sI, sh_sR, sh_sL, gR_sI, gR_sL, gI_sR, gI_sL, sh_cI, gR_cI, hm, n2, g2]
        exact ⟨ti_eq.mpr (by rw [h2 s hs6 hs, q2 s hs6]), h⟩
    simp only [ok_bd]
    refine ok_call c_Xsort ?_
    rintro r2 u2 ⟨rfl, hr2⟩
    rw [sub_in (d := 10) ti_10' (by omega)] at hr2
    rw [ok_cd]
    refine ⟨fun d => ?_, fun d => ?_⟩
    · have d' := hr2.z.mp d
      simp only [ok_bd]
      refine ok_call c_Xsort ?_
      rintro r3 u3 ⟨rfl, hr3⟩
      rw [sub_in (d := 20) ti_20' (by omega)] at hr3
      rw [ok_cd]
      refine ⟨fun e => ?_, fun e => ?_⟩
      · have e' := hr3.z.mp e
        exact ok_ret.mpr (mod _ (fun _ _ => rfl) (fun s hs hs' => absurd ⟨by omega, by omega⟩ d') (fun s hs hs' => absurd ⟨by omega, by omega⟩ e'))
      · have e' := Classical.not_not.mp (fun z => e (hr3.z.mpr z))
        obtain ⟨s, hs⟩ : ∃ s : Nat, a1.toInt = ((20 + s : Nat) : Int) := ⟨a1.toInt.toNat - 20, by omega⟩
        have hs6 : s < 6 := by omega
        have e2 := sub_n (d := 20) ti_20' (by omega) hs (by omega)
        have n2 := nat_of e2
        have g2 := ix_of (m := 6) e2 hs6
        rw [n2] at g2
        simp only [ok_gd, ok_bd, ok_rr1, ok_nr0, ok_nr1, ok_ret, true_and, and_true, not_false_eq_true, sh_sI, sh_sR, sh_sL, gR_sI, gR_sL, gI_sR, gI_sL, sh_cI, gR_cI, hx, h14, ht, n2, g2]
        refine mod _ (fun _ z => absurd ⟨by omega, by omega⟩ z) (fun s' hs2 hs3 => by omega) (fun s' hs2 hs3 => ?_)
        have e : s' = s := by omega
        rw [e]; exact hTW.2.2.2.2.2 s hs6
    · have d' := Classical.not_not.mp (fun z => d (hr2.z.mpr z))
      obtain ⟨s, hs⟩ : ∃ s : Nat, a1.toInt = ((10 + s : Nat) : Int) := ⟨a1.toInt.toNat - 10, by omega⟩
      have hs6 : s < 6 := by omega
      have e2 := sub_n (d := 10) ti_10' (by omega) hs (by omega)
      have n2 := nat_of e2
      have g2 := ix_of (m := 6) e2 hs6
      rw [n2] at g2
      simp only [ok_gd, ok_bd, ok_rr1, ok_nr0, ok_nr1, ok_ret, true_and, and_true, not_false_eq_true, sh_sI, sh_sR, sh_sL, gR_sI, gR_sL, gI_sR, gI_sL, sh_cI, gR_cI, hx, hw9, n2, g2]
      refine mod _ (fun z _ => absurd ⟨by omega, by omega⟩ z) (fun s' hs2 hs3 => ?_) (fun s' hs2 hs3 => by omega)
      have e : s' = s := by omega
      rw [e]; exact k2 s hs6
end TOLD
