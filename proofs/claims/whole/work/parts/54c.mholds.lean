/-! ===== an E in the model: both of two, one of two ===== -/
section MA
variable {N i n c s : Nat} {w u : gW} {a1 a2 a3 a4 a5 : Int32} {e : Int} {rec : Nat × Int32 × Int32 × Int32 × Int32 × Int32 × gW → Option (Int32 × gW)} {Q : Int32 → gW → Prop}
theorem mh_a1 (h4 : a4.toInt = ((n + 2 : Nat) : Int)) (h4' : n + 2 < 100) : (a4 + (-1)).toInt = ((n + 1 : Nat) : Int) := by
  rw [ti_addm1 (by omega)]; omega
theorem mh_a2 (h4 : a4.toInt = ((n + 1 : Nat) : Int)) (h4' : n + 2 < 100) : (a4 - 1).toInt = (n : Int) := by
  rw [ti_sub1 (by omega)]; omega
theorem mh_a (hL : Lay u) (h1 : a1.toInt = (c : Int)) (hc : c < 60) (he : (gI u 146 c).toInt = e) (h5 : a5.toInt = (i : Int)) (hi : i < 600) (hie : (i : Int) < e) (z : Int) (hn : (gI u 147 i).toInt = z) (h4 : a4.toInt = ((n + 2 : Nat) : Int)) (h4' : n + 2 < 100) (hz : z = -38 ∨ z = -124) (b b' : Bool) (hb : (gI u 150 (n + 1)).toInt = bz b) (hb' : (gI u 150 n).toInt = bz b')
    (hQ : ∀ x : Int32, x.toInt = bz (if z = -38 then b' && b else b' || b) → ok (rec (133, a1, a2, a3, a4 + (-1), a5 + 1, sI u 150 n x)) Q) : ok (f_M_holds_b11 N rec 133 a1 a2 a3 a4 a5 u) Q := by
  have hm := lay_M hL
  have l1 : n + 1 < 100 := by omega
  have l2 : n < 100 := by omega
  have q1 : ¬ e ≤ (i : Int) := by omega
  have q2 : ¬ z = -33 := by omega
  have q3 : ¬ 0 ≤ z := by omega
  have n2 := mh_a1 h4 h4'
  have n3 := mh_a2 n2 h4'
  have g1 := ix_of n2 l1
  have g2 := ix_of n3 l2
  rw [nat_of n2] at g1
  rw [nat_of n3] at g2
  have m2 := nat_of n2
  have m3 := nat_of n3
  clear n2 n3
  unfold f_M_holds_b11
  simp only [hm, ok_gd, ok_rr1, ok_bd, true_and]
  refine ⟨ix_of h1 hc, ?_⟩
  refine ok_cdf (by rw [ti_le, nat_of h1, he, h5]; exact q1) ?_
  simp only [hm, ok_gd, ok_rr1, ok_bd, true_and]
  refine ⟨ix_of h5 hi, ?_⟩
  rw [nat_of h5]
  refine ok_cdf (by rw [ti_eq, hn, ti_n33]; exact q2) ?_
  refine ok_cdf (by rw [ti_le, hn, ti_0]; exact q3) ?_
  simp only [f_M_holds_b116, f_M_holds_b142, hm, ok_gd, ok_rr1, ok_bd, true_and, nar0, nar1, m2, m3]
  rcases hz with rfl | rfl
  · refine ok_cdt (by rw [ti_eq, hn, ti_n38]) ?_
    rw [if_pos rfl] at hQ
    simp only [ok_bd, ok_gd, ok_rr1, true_and, hm, m2, m3, nar0, nar1]
    refine ⟨g2, ?_⟩
    cases b'
    · refine ok_cdt (by rw [ti_eq, hb', ti_0]; rfl) ?_
      simp only [ok_bd, ok_gd, ok_rr1, true_and, hm, m2, m3, nar0, nar1]
      exact ⟨g2, hQ _ (by rw [ti_0]; rfl)⟩
    · refine ok_cdf (by rw [ti_eq, hb', ti_0]; decide) ?_
      simp only [ok_bd, ok_gd, ok_rr1, true_and, hm, m2, m3, nar0, nar1]
      refine ⟨g1, ?_⟩
      cases b
      · refine ok_cdt (by rw [ti_eq, hb, ti_0]; rfl) ?_
        simp only [ok_bd, ok_gd, ok_rr1, true_and, hm, m2, m3, nar0, nar1]
        exact ⟨g2, hQ _ (by rw [ti_0]; rfl)⟩
      · refine ok_cdf (by rw [ti_eq, hb, ti_0]; decide) ?_
        simp only [ok_bd, ok_gd, ok_rr1, true_and, hm, m2, m3, nar0, nar1]
        exact ⟨g2, hQ _ (by rw [ti_1]; rfl)⟩
  · refine ok_cdf (by rw [ti_eq, hn, ti_n38]; decide) ?_
    rw [if_neg (by decide)] at hQ
    simp only [ok_bd, ok_gd, ok_rr1, true_and, hm, m2, m3, nar0, nar1]
    refine ⟨g2, ?_⟩
    cases b'
    · refine ok_cdt (by rw [ti_eq, hb', ti_0]; rfl) ?_
      simp only [ok_bd, ok_gd, ok_rr1, true_and, hm, m2, m3, nar0, nar1]
      refine ⟨g1, ?_⟩
      cases b
      · refine ok_cdt (by rw [ti_eq, hb, ti_0]; rfl) ?_
        simp only [ok_bd, ok_gd, ok_rr1, true_and, hm, m2, m3, nar0, nar1]
        exact ⟨g2, hQ _ (by rw [ti_0]; rfl)⟩
      · refine ok_cdf (by rw [ti_eq, hb, ti_0]; decide) ?_
        simp only [ok_bd, ok_gd, ok_rr1, true_and, hm, m2, m3, nar0, nar1]
        exact ⟨g2, hQ _ (by rw [ti_1]; rfl)⟩
    · refine ok_cdf (by rw [ti_eq, hb', ti_0]; decide) ?_
      simp only [ok_bd, ok_gd, ok_rr1, true_and, hm, m2, m3, nar0, nar1]
      exact ⟨g2, hQ _ (by rw [ti_1]; rfl)⟩
end MA
