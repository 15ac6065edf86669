/-! ===== acts: hands and tells of the class =====  -/
section ACTD
variable {N o kd : Nat} {w u z : gW} {num v x : Int32} {s : Nat × (Nat → Int32)}
theorem cnR_le : (cnR kd num v x s).2.1 ≤ s.1 + 2 := by
  unfold cnR
  split
  · simp [pcR, trs]
  · split
    · simp [pcR, trs]
    · split <;> simp [pcR, trs]
def phR (kd : Nat) (num v x : Int32) (s : Nat × (Nat → Int32)) : Int32 × (Nat × (Nat → Int32)) := ((cnR kd num v x (trs s 11)).1 - v, (cnR kd num v x (trs s 11)).2)
def ehR (kd : Nat) (num v x : Int32) (s : Nat × (Nat → Int32)) : Int32 × (Nat × (Nat → Int32)) := ((phR kd num v x (trs s 20)).1 ^^^ 6, (phR kd num v x (trs s 20)).2)
def thR (kd : Nat) (num v x : Int32) (s : Nat × (Nat → Int32)) : Int32 × (Nat × (Nat → Int32)) := ((phR kd num v x (trs s 70)).1 + (pcR num 2 (phR kd num v x (trs s 70)).2).1, (pcR num 2 (phR kd num v x (trs s 70)).2).2)
def hnR (kd : Nat) (num v x : Int32) (s : Nat × (Nat → Int32)) : Int32 × (Nat × (Nat → Int32)) :=
  if kd = 1 then ehR kd num v x s else if kd = 4 then ehR kd num v (x + 1) (trs s 51) else if kd = 6 then thR kd num v x s else phR kd num v x s
theorem phR_le : (phR kd num v x s).2.1 ≤ s.1 + 3 := by
  have h : (cnR kd num v x (trs s 11)).2.1 ≤ (trs s 11).1 + 2 := cnR_le
  simp only [trs] at h
  simp only [phR, trs]; omega
theorem c_phands (hL : Lay w) (hs : s.1 ≤ 890) (hp : PA w o kd num v) (q : TRc w s) : ok (f_P_hands N o x 74 w) (fun r u => Fr [75] [(74, 1)] w u ∧ r = (phR kd num v x s).1 ∧ TRc u (phR kd num v x s).2) := by
  have hx := lay_A hL
  unfold f_P_hands f_P_hands_b0
  simp only [ok_gd, true_and, hx]
  refine ok_call (c_begins hL (by omega) q) ?_
  rintro - u ⟨f, g⟩
  refine ok_call (c_vcounts (f.lay hL) (by simp only [trs]; omega) (hp.fr f) g) ?_
  rintro r z ⟨f', hr, g'⟩
  have hp' := (hp.fr f).fr f'
  have hk : (sh z o).1 < 7 := by rw [hp'.1]; exact hp'.2.1
  simp only [ok_gd, ok_bd, hk, true_and]
  exact ok_ret.mpr ⟨f.tr f', by rw [hr, hp'.2.2.2.1]; rfl, g'⟩
theorem c_ehands (hL : Lay w) (hs : s.1 ≤ 889) (hp : PA w o kd num v) (q : TRc w s) : ok (f_E_hands N o x 74 w) (fun r u => Fr [75] [(74, 1)] w u ∧ r = (ehR kd num v x s).1 ∧ TRc u (ehR kd num v x s).2) := by
  have hx := lay_A hL
  unfold f_E_hands f_E_hands_b0
  simp only [ok_gd, true_and, hx]
  refine ok_call (c_begins hL (by omega) q) ?_
  rintro - u ⟨f, g⟩
  have hp' := hp.fr f
  have hk : (sh u o).1 < 7 := by rw [hp'.1]; exact hp'.2.1
  simp only [ok_gd, ok_bd, hk, true_and]
  refine ok_call (c_phands (f.lay hL) (by simp only [trs]; omega) hp' g) ?_
  rintro r z ⟨f', hr, g'⟩
  exact ok_ret.mpr ⟨f.tr f', by rw [hr]; rfl, g'⟩
theorem c_lhands (hL : Lay w) (hs : s.1 ≤ 888) (hp : PA w o kd num v) (q : TRc w s) : ok (f_Li_hands N o x 74 w) (fun r u => Fr [75] [(74, 1)] w u ∧ r = (ehR kd num v (x + 1) (trs s 51)).1 ∧ TRc u (ehR kd num v (x + 1) (trs s 51)).2) := by
  have hx := lay_A hL
  unfold f_Li_hands f_Li_hands_b0
  simp only [ok_gd, true_and, hx]
  refine ok_call (c_begins hL (by omega) q) ?_
  rintro - u ⟨f, g⟩
  have hp' := hp.fr f
  have hk : (sh u o).1 < 7 := by rw [hp'.1]; exact hp'.2.1
  simp only [ok_gd, ok_bd, hk, true_and]
  refine ok_call (c_ehands (f.lay hL) (by simp only [trs]; omega) hp' g) ?_
  rintro r z ⟨f', hr, g'⟩
  exact ok_ret.mpr ⟨f.tr f', hr, g'⟩
theorem c_thands (hL : Lay w) (hs : s.1 ≤ 880) (hp : PA w o kd num v) (q : TRc w s) : ok (f_To_hands N o x 74 w) (fun r u => Fr [75] [(74, 1)] w u ∧ r = (thR kd num v x s).1 ∧ TRc u (thR kd num v x s).2) := by
  have hx := lay_A hL
  unfold f_To_hands f_To_hands_b0
  simp only [ok_gd, true_and, hx]
  refine ok_call (c_begins hL (by omega) q) ?_
  rintro - u ⟨f, g⟩
  have hp' := hp.fr f
  have hk : (sh u o).1 < 7 := by rw [hp'.1]; exact hp'.2.1
  simp only [ok_gd, ok_bd, hk, true_and]
  refine ok_call (c_phands (f.lay hL) (by simp only [trs]; omega) hp' g) ?_
  rintro r z ⟨f', hr, g'⟩
  have hp'' := hp'.fr f'
  have hk' : (sh z o).1 < 7 := by rw [hp''.1]; exact hp''.2.1
  simp only [ok_gd, ok_bd, hk', true_and]
  have hle : (phR kd num v x (trs s 70)).2.1 ≤ (trs s 70).1 + 3 := phR_le
  have h1 : (trs s 70).1 = s.1 + 1 := rfl
  refine ok_call (c_pcounts (f'.lay (f.lay hL)) (by omega) hp'' g') ?_
  rintro r2 z2 ⟨f2, hr2, g2⟩
  exact ok_ret.mpr ⟨(f.tr f').tr f2, by rw [hr, hr2]; rfl, g2⟩
theorem c_vhands (hL : Lay w) (hs : s.1 ≤ 880) (hp : PA w o kd num v) (q : TRc w s) : ok (v_hands N o x 74 w) (fun r u => Fr [75] [(74, 1)] w u ∧ r = (hnR kd num v x s).1 ∧ TRc u (hnR kd num v x s).2) := by
  have hk := hp.1
  have h7 := hp.2.1
  unfold v_hands
  simp only [hk]
  rcases (by omega : kd = 0 ∨ kd = 1 ∨ kd = 2 ∨ kd = 3 ∨ kd = 4 ∨ kd = 5 ∨ kd = 6) with rfl | rfl | rfl | rfl | rfl | rfl | rfl
  · exact ok_cdt rfl (c_phands hL (by omega) hp q)
  · exact ok_cdf (by decide) (ok_cdt rfl (c_ehands hL (by omega) hp q))
  · exact ok_cdf (by decide) (ok_cdf (by decide) (ok_cdt rfl (c_phands hL (by omega) hp q)))
  · exact ok_cdf (by decide) (ok_cdf (by decide) (ok_cdf (by decide) (ok_cdt rfl (c_phands hL (by omega) hp q))))
  · exact ok_cdf (by decide) (ok_cdf (by decide) (ok_cdf (by decide) (ok_cdf (by decide) (ok_cdt rfl (c_lhands hL (by omega) hp q)))))
  · exact ok_cdf (by decide) (ok_cdf (by decide) (ok_cdf (by decide) (ok_cdf (by decide) (ok_cdf (by decide) (ok_cdt rfl (c_phands hL (by omega) hp q))))))
  · exact ok_cdf (by decide) (ok_cdf (by decide) (ok_cdf (by decide) (ok_cdf (by decide) (ok_cdf (by decide) (ok_cdf (by decide) (ok_cdt rfl (c_thands hL hs hp q)))))))
end ACTD
