/-! ===== acts: counts of the class =====  -/
section ACTC
variable {N o kd : Nat} {w u z : gW} {num v x : Int32} {s : Nat × (Nat → Int32)}
abbrev PA (w : gW) (o kd : Nat) (num v : Int32) : Prop := (sh w o).1 = kd ∧ kd < 7 ∧ gI w o 1 = num ∧ gI w o 2 = v ∧ 182 ≤ o
theorem PA.fr (f : Fr [75] [(74, 1)] w u) (h : PA w o kd num v) : PA u o kd num v := by
  obtain ⟨h1, h2, h3, h4, h5⟩ := h
  have ho : oP [75] [(74, 1)] o := ⟨by simp; omega, by simp; omega⟩
  exact ⟨by rw [f.s]; exact h1, h2, by rw [f.i ho]; exact h3, by rw [f.i ho]; exact h4, h5⟩
/-- counts(x) of a payer; of one of kind kd -/
def pcR (num x : Int32) (s : Nat × (Nat → Int32)) : Int32 × (Nat × (Nat → Int32)) := (x + num, trs s 10)
def cnR (kd : Nat) (num v x : Int32) (s : Nat × (Nat → Int32)) : Int32 × (Nat × (Nat → Int32)) :=
  if kd = 2 ∨ kd = 5 then pcR num (x * 3) (trs s 30) else if kd = 4 then (-(pcR num x (trs s 50)).1, (pcR num x (trs s 50)).2) else if kd = 6 then ((pcR num x (trs s 71)).1 ^^^ v, (pcR num x (trs s 71)).2) else pcR num x s
theorem c_pcounts (hL : Lay w) (hs : s.1 ≤ 900) (hp : PA w o kd num v) (q : TRc w s) : ok (f_P_counts N o x 74 w) (fun r u => Fr [75] [(74, 1)] w u ∧ r = (pcR num x s).1 ∧ TRc u (pcR num x s).2) := by
  have hx := lay_A hL
  unfold f_P_counts f_P_counts_b0
  simp only [ok_gd, true_and, hx]
  refine ok_call (c_begins hL hs q) ?_
  rintro - u ⟨f, g⟩
  have hp' := hp.fr f
  have hk : (sh u o).1 < 7 := by rw [hp'.1]; exact hp'.2.1
  simp only [ok_gd, ok_bd, hk, true_and]
  exact ok_ret.mpr ⟨f, by rw [hp'.2.2.1]; rfl, g⟩
theorem c_rcounts (hL : Lay w) (hs : s.1 ≤ 899) (hp : PA w o kd num v) (q : TRc w s) : ok (f_Ro_counts N o x 74 w) (fun r u => Fr [75] [(74, 1)] w u ∧ r = (pcR num (x * 3) (trs s 30)).1 ∧ TRc u (pcR num (x * 3) (trs s 30)).2) := by
  have hx := lay_A hL
  unfold f_Ro_counts f_Ro_counts_b0
  simp only [ok_gd, true_and, hx]
  refine ok_call (c_begins hL (by omega) q) ?_
  rintro - u ⟨f, g⟩
  have hp' := hp.fr f
  have hk : (sh u o).1 < 7 := by rw [hp'.1]; exact hp'.2.1
  simp only [ok_gd, ok_bd, hk, true_and]
  refine ok_call (c_pcounts (f.lay hL) (by simp only [trs]; omega) hp' g) ?_
  rintro r z ⟨f', hr, g'⟩
  exact ok_ret.mpr ⟨f.tr f', hr, g'⟩
theorem c_lcounts (hL : Lay w) (hs : s.1 ≤ 899) (hp : PA w o kd num v) (q : TRc w s) : ok (f_Li_counts N o x 74 w) (fun r u => Fr [75] [(74, 1)] w u ∧ r = -(pcR num x (trs s 50)).1 ∧ TRc u (pcR num x (trs s 50)).2) := by
  have hx := lay_A hL
  unfold f_Li_counts f_Li_counts_b0
  simp only [ok_gd, true_and, hx]
  refine ok_call (c_begins hL (by omega) q) ?_
  rintro - u ⟨f, g⟩
  have hp' := hp.fr f
  have hk : (sh u o).1 < 7 := by rw [hp'.1]; exact hp'.2.1
  simp only [ok_gd, ok_bd, hk, true_and]
  refine ok_call (c_pcounts (f.lay hL) (by simp only [trs]; omega) hp' g) ?_
  rintro r z ⟨f', hr, g'⟩
  exact ok_ret.mpr ⟨f.tr f', by rw [hr], g'⟩
theorem c_tcounts (hL : Lay w) (hs : s.1 ≤ 899) (hp : PA w o kd num v) (q : TRc w s) : ok (f_To_counts N o x 74 w) (fun r u => Fr [75] [(74, 1)] w u ∧ r = (pcR num x (trs s 71)).1 ^^^ v ∧ TRc u (pcR num x (trs s 71)).2) := by
  have hx := lay_A hL
  unfold f_To_counts f_To_counts_b0
  simp only [ok_gd, true_and, hx]
  refine ok_call (c_begins hL (by omega) q) ?_
  rintro - u ⟨f, g⟩
  have hp' := hp.fr f
  have hk : (sh u o).1 < 7 := by rw [hp'.1]; exact hp'.2.1
  simp only [ok_gd, ok_bd, hk, true_and]
  refine ok_call (c_pcounts (f.lay hL) (by simp only [trs]; omega) hp' g) ?_
  rintro r z ⟨f', hr, g'⟩
  have hp'' := hp'.fr f'
  have hk' : (sh z o).1 < 7 := by rw [hp''.1]; exact hp''.2.1
  simp only [ok_gd, ok_bd, hk', true_and]
  exact ok_ret.mpr ⟨f.tr f', by rw [hr, hp''.2.2.2.1], g'⟩
theorem c_vcounts (hL : Lay w) (hs : s.1 ≤ 899) (hp : PA w o kd num v) (q : TRc w s) : ok (v_counts N o x 74 w) (fun r u => Fr [75] [(74, 1)] w u ∧ r = (cnR kd num v x s).1 ∧ TRc u (cnR kd num v x s).2) := by
  have hk := hp.1
  have h7 := hp.2.1
  unfold v_counts
  simp only [hk]
  rcases (by omega : kd = 0 ∨ kd = 1 ∨ kd = 2 ∨ kd = 3 ∨ kd = 4 ∨ kd = 5 ∨ kd = 6) with rfl | rfl | rfl | rfl | rfl | rfl | rfl
  · exact ok_cdt rfl (c_pcounts hL (by omega) hp q)
  · exact ok_cdf (by decide) (ok_cdt rfl (c_pcounts hL (by omega) hp q))
  · exact ok_cdf (by decide) (ok_cdf (by decide) (ok_cdt rfl (c_rcounts hL hs hp q)))
  · exact ok_cdf (by decide) (ok_cdf (by decide) (ok_cdf (by decide) (ok_cdt rfl (c_pcounts hL (by omega) hp q))))
  · exact ok_cdf (by decide) (ok_cdf (by decide) (ok_cdf (by decide) (ok_cdf (by decide) (ok_cdt rfl (c_lcounts hL hs hp q)))))
  · exact ok_cdf (by decide) (ok_cdf (by decide) (ok_cdf (by decide) (ok_cdf (by decide) (ok_cdf (by decide) (ok_cdt rfl (c_rcounts hL hs hp q))))))
  · exact ok_cdf (by decide) (ok_cdf (by decide) (ok_cdf (by decide) (ok_cdf (by decide) (ok_cdf (by decide) (ok_cdf (by decide) (ok_cdt rfl (c_tcounts hL hs hp q)))))))
end ACTC
