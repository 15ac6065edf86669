/-! ===== acts: tells of the class =====  -/
section ACTE
variable {N o kd : Nat} {w u z : gW} {num v x : Int32} {s : Nat × (Nat → Int32)}
theorem ehR_le : (ehR kd num v x s).2.1 ≤ s.1 + 4 := by
  have h : (phR kd num v x (trs s 20)).2.1 ≤ (trs s 20).1 + 3 := phR_le
  simp only [trs] at h
  simp only [ehR, trs]; omega
theorem thR_le : (thR kd num v x s).2.1 ≤ s.1 + 5 := by
  have h : (phR kd num v x (trs s 70)).2.1 ≤ (trs s 70).1 + 3 := phR_le
  simp only [trs] at h
  simp only [thR, pcR, trs]; omega
theorem hnR_le : (hnR kd num v x s).2.1 ≤ s.1 + 5 := by
  have h1 : (ehR kd num v x s).2.1 ≤ s.1 + 4 := ehR_le
  have h2 : (ehR kd num v (x + 1) (trs s 51)).2.1 ≤ (trs s 51).1 + 4 := ehR_le
  have h3 : (trs s 51).1 = s.1 + 1 := rfl
  have h4 : (thR kd num v x s).2.1 ≤ s.1 + 5 := thR_le
  have h5 : (phR kd num v x s).2.1 ≤ s.1 + 3 := phR_le
  unfold hnR
  split
  · omega
  · split
    · omega
    · split <;> omega
def ptR (kd : Nat) (num v x : Int32) (s : Nat × (Nat → Int32)) : Int32 × (Nat × (Nat → Int32)) := ((hnR kd num v x (trs s 12)).1 * 2, (hnR kd num v x (trs s 12)).2)
def ktR (kd : Nat) (num v x : Int32) (s : Nat × (Nat → Int32)) : Int32 × (Nat × (Nat → Int32)) := ((ptR kd num v x (trs s 40)).1 + (hnR kd num v 1 (ptR kd num v x (trs s 40)).2).1, (hnR kd num v 1 (ptR kd num v x (trs s 40)).2).2)
def tlR (kd : Nat) (num v x : Int32) (s : Nat × (Nat → Int32)) : Int32 × (Nat × (Nat → Int32)) :=
  if kd = 3 ∨ kd = 6 then ktR kd num v x s else if kd = 5 then ptR kd num v (x - num) (trs s 60) else ptR kd num v x s
theorem ptR_le : (ptR kd num v x s).2.1 ≤ s.1 + 6 := by
  have h : (hnR kd num v x (trs s 12)).2.1 ≤ (trs s 12).1 + 5 := hnR_le
  simp only [trs] at h
  simp only [ptR, trs]; omega
theorem c_ptells (hL : Lay w) (hs : s.1 ≤ 870) (hp : PA w o kd num v) (q : TRc w s) : ok (f_P_tells N o x 74 w) (fun r u => Fr [75] [(74, 1)] w u ∧ r = (ptR kd num v x s).1 ∧ TRc u (ptR kd num v x s).2) := by
  have hx := lay_A hL
  unfold f_P_tells f_P_tells_b0
  simp only [ok_gd, true_and, hx]
  refine ok_call (c_begins hL (by omega) q) ?_
  rintro - u ⟨f, g⟩
  refine ok_call (c_vhands (f.lay hL) (by simp only [trs]; omega) (hp.fr f) g) ?_
  rintro r z ⟨f', hr, g'⟩
  simp only [ok_bd]
  exact ok_ret.mpr ⟨f.tr f', by rw [hr]; rfl, g'⟩
theorem c_wtells (hL : Lay w) (hs : s.1 ≤ 860) (hp : PA w o kd num v) (q : TRc w s) : ok (f_Wi_tells N o x 74 w) (fun r u => Fr [75] [(74, 1)] w u ∧ r = (ptR kd num v (x - num) (trs s 60)).1 ∧ TRc u (ptR kd num v (x - num) (trs s 60)).2) := by
  have hx := lay_A hL
  unfold f_Wi_tells f_Wi_tells_b0
  simp only [ok_gd, true_and, hx]
  refine ok_call (c_begins hL (by omega) q) ?_
  rintro - u ⟨f, g⟩
  have hp' := hp.fr f
  have hk : (sh u o).1 < 7 := by rw [hp'.1]; exact hp'.2.1
  simp only [ok_gd, ok_bd, hk, true_and, hp'.2.2.1]
  refine ok_call (c_ptells (f.lay hL) (by simp only [trs]; omega) hp' g) ?_
  rintro r z ⟨f', hr, g'⟩
  exact ok_ret.mpr ⟨f.tr f', hr, g'⟩
theorem c_vhandsK (hL : Lay w) (hs : s.1 ≤ 880) (h36 : kd = 3 ∨ kd = 6) (hp : PA w o kd num v) (q : TRc w s) : ok (v_handsK N o x 74 w) (fun r u => Fr [75] [(74, 1)] w u ∧ r = (hnR kd num v x s).1 ∧ TRc u (hnR kd num v x s).2) := by
  have hk := hp.1
  unfold v_handsK
  simp only [hk]
  rcases h36 with rfl | rfl
  · exact ok_cdt rfl (c_phands hL (by omega) hp q)
  · exact ok_cdf (by decide) (ok_cdt rfl (c_thands hL hs hp q))
theorem c_ktells (hL : Lay w) (hs : s.1 ≤ 850) (h36 : kd = 3 ∨ kd = 6) (hp : PA w o kd num v) (q : TRc w s) : ok (f_Ke_tells N o x 74 w) (fun r u => Fr [75] [(74, 1)] w u ∧ r = (ktR kd num v x s).1 ∧ TRc u (ktR kd num v x s).2) := by
  have hx := lay_A hL
  unfold f_Ke_tells f_Ke_tells_b0
  simp only [ok_gd, true_and, hx]
  refine ok_call (c_begins hL (by omega) q) ?_
  rintro - u ⟨f, g⟩
  have hp' := hp.fr f
  have hk : (sh u o).1 < 7 := by rw [hp'.1]; exact hp'.2.1
  simp only [ok_gd, ok_bd, hk, true_and]
  refine ok_call (c_ptells (f.lay hL) (by simp only [trs]; omega) hp' g) ?_
  rintro r z ⟨f', hr, g'⟩
  have hle : (ptR kd num v x (trs s 40)).2.1 ≤ (trs s 40).1 + 6 := ptR_le
  have h1 : (trs s 40).1 = s.1 + 1 := rfl
  refine ok_call (c_vhandsK (f'.lay (f.lay hL)) (by omega) h36 (hp'.fr f') g') ?_
  rintro r2 z2 ⟨f2, hr2, g2⟩
  simp only [ok_bd]
  exact ok_ret.mpr ⟨(f.tr f').tr f2, by rw [hr, hr2]; rfl, g2⟩
theorem c_vtells (hL : Lay w) (hs : s.1 ≤ 850) (hp : PA w o kd num v) (q : TRc w s) : ok (v_tells N o x 74 w) (fun r u => Fr [75] [(74, 1)] w u ∧ r = (tlR kd num v x s).1 ∧ TRc u (tlR kd num v x s).2) := by
  have hk := hp.1
  have h7 := hp.2.1
  unfold v_tells
  simp only [hk]
  rcases (by omega : kd = 0 ∨ kd = 1 ∨ kd = 2 ∨ kd = 3 ∨ kd = 4 ∨ kd = 5 ∨ kd = 6) with rfl | rfl | rfl | rfl | rfl | rfl | rfl
  · exact ok_cdt rfl (c_ptells hL (by omega) hp q)
  · exact ok_cdf (by decide) (ok_cdt rfl (c_ptells hL (by omega) hp q))
  · exact ok_cdf (by decide) (ok_cdf (by decide) (ok_cdt rfl (c_ptells hL (by omega) hp q)))
  · exact ok_cdf (by decide) (ok_cdf (by decide) (ok_cdf (by decide) (ok_cdt rfl (c_ktells hL hs (Or.inl rfl) hp q))))
  · exact ok_cdf (by decide) (ok_cdf (by decide) (ok_cdf (by decide) (ok_cdf (by decide) (ok_cdt rfl (c_ptells hL (by omega) hp q)))))
  · exact ok_cdf (by decide) (ok_cdf (by decide) (ok_cdf (by decide) (ok_cdf (by decide) (ok_cdf (by decide) (ok_cdt rfl (c_wtells hL (by omega) hp q))))))
  · exact ok_cdf (by decide) (ok_cdf (by decide) (ok_cdf (by decide) (ok_cdf (by decide) (ok_cdf (by decide) (ok_cdf (by decide) (ok_cdt rfl (c_ktells hL hs (Or.inr rfl) hp q)))))))
end ACTE
