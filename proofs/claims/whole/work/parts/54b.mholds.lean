/-! ===== an E in the model, op by op ===== -/
theorem ok_cdt {ρ : Type} {c : Prop} [Decidable c] {x y : Option (ρ × gW)} {Q : ρ → gW → Prop} (h : c) (k : ok x Q) : ok (cd c x y) Q := by unfold cd; rw [if_pos h]; exact k
theorem ok_cdf {ρ : Type} {c : Prop} [Decidable c] {x y : Option (ρ × gW)} {Q : ρ → gW → Prop} (h : ¬ c) (k : ok y Q) : ok (cd c x y) Q := by unfold cd; rw [if_neg h]; exact k
theorem ok_gdt {ρ : Type} {c : Prop} [Decidable c] {x : Option (ρ × gW)} {Q : ρ → gW → Prop} (h : c) (k : ok x Q) : ok (gd c x) Q := by unfold gd; rw [if_pos h]; exact k
theorem nat_of {x : Int32} {n : Nat} (h : x.toInt = (n : Int)) : x.toNatClampNeg = n := by rw [ti_nat, h, Int.toNat_natCast]
theorem ix_of {x : Int32} {n m : Nat} (h : x.toInt = (n : Int)) (g : n < m) : ¬ (x < 0 ∨ m ≤ x.toNatClampNeg) := by
  rw [nat_of h, ti_lt, ti_0]; omega
theorem ti_sub1 {a : Int32} (h : -2147483648 < a.toInt) : (a - 1).toInt = a.toInt - 1 := by
  have := (J_in a).2
  rw [ti_sub] <;> rw [ti_1] ; omega
theorem ti_addm1 {a : Int32} (h : -2147483648 < a.toInt) : (a + (-1)).toInt = a.toInt - 1 := by
  have := (J_in a).2
  rw [ti_add] <;> rw [ti_n1] <;> omega
section MH
variable {N i n c s : Nat} {w u : gW} {a1 a2 a3 a4 a5 : Int32} {e : Int} {rec : Nat × Int32 × Int32 × Int32 × Int32 × Int32 × gW → Option (Int32 × gW)} {Q : Int32 → gW → Prop}
/-- the end is not yet; the op -/
theorem mh_0 (hL : Lay u) (h1 : a1.toInt = (c : Int)) (hc : c < 60) (he : (gI u 146 c).toInt = e) (h5 : a5.toInt = (i : Int)) (hi : i < 600) (hie : (i : Int) < e) (hn : (gI u 147 i).toInt = -33) (h4 : a4.toInt = ((n + 1 : Nat) : Int)) (h4' : n < 100)
    (hQ : ∀ x : Int32, x.toInt = (if (gI u 150 n).toInt = 0 then 1 else 0) → ok (rec (133, a1, a2, a3, a4, a5 + 1, sI u 150 n x)) Q) : ok (f_M_holds_b11 N rec 133 a1 a2 a3 a4 a5 u) Q := by
  have hm := lay_M hL
  have b1 : ¬ (c : Int) < 0 := by omega
  have b2 : ¬ 60 ≤ c := by omega
  have c0 : ¬ e ≤ (i : Int) := by omega
  have c1 : ¬ (i : Int) < 0 := by omega
  have c2 : ¬ 600 ≤ i := by omega
  have g1 : ¬ (n : Int) < 0 := by omega
  have g2 : ¬ 100 ≤ n := by omega
  have n2 : (a4 - 1).toInt = (n : Int) := by rw [ti_sub] <;> rw [ti_1] <;> omega
  unfold f_M_holds_b11
  simp only [hm, ok_gd, ok_rr1, ok_bd, true_and]
  refine ⟨by rw [ti_lt, ti_nat, ti_0, h1, Int.toNat_natCast]; omega, ?_⟩
  rw [ok_cd]
  refine ⟨fun g => absurd g (by rw [ti_le, ti_nat, h1, Int.toNat_natCast, he, h5]; exact c0), fun _ => ?_⟩
  simp only [hm, ok_gd, ok_rr1, ok_bd, true_and]
  refine ⟨by rw [ti_lt, ti_nat, ti_0, h5, Int.toNat_natCast]; omega, ?_⟩
  rw [ok_cd]
  refine ⟨fun _ => ?_, fun g => absurd (ti_eq.mpr (by rw [ti_nat, h5, Int.toNat_natCast, hn, ti_n33])) g⟩
  simp only [hm, ok_gd, ok_rr1, ok_bd, true_and]
  refine ⟨by rw [ti_lt, ti_nat, ti_0, n2, Int.toNat_natCast]; omega, ?_⟩
  rw [ok_cd]
  have e2 : (a4 - 1).toNatClampNeg = n := by rw [ti_nat, n2, Int.toNat_natCast]
  rw [e2]
  refine ⟨fun g => ?_, fun g => ?_⟩
  · rw [ti_eq, ti_0] at g
    simp only [ok_gd, ok_bd]
    exact ⟨by rw [ti_lt, ti_0, n2]; omega, hQ _ (by rw [if_pos g]; rfl)⟩
  · rw [ti_eq, ti_0] at g
    simp only [ok_gd, ok_bd]
    exact ⟨by rw [ti_lt, ti_0, n2]; omega, hQ _ (by rw [if_neg g]; rfl)⟩
theorem mh_s (hL : Lay u) (h1 : a1.toInt = (c : Int)) (hc : c < 60) (he : (gI u 146 c).toInt = e) (h5 : a5.toInt = (i : Int)) (hi : i < 600) (hie : (i : Int) < e) (z : Int) (hn : (gI u 147 i).toInt = z) (h4 : a4.toInt = (n : Int)) (h4' : n < 100) (hz : vz z)
    (hwr : wrM u) (hpd : pdM u) (h2 : a2.toInt = (s : Int)) (hs : s < 6) (h3 : a3.toInt = -1 ∨ 0 ≤ a3.toInt ∧ a3.toInt < 4)
    (hQ : ∀ x : Int32, x.toInt = bz (tst (mft u s a3.toInt) z) → ok (rec (133, a1, a2, a3, a4 + 1, a5 + 1, sI u 150 n x)) Q) : ok (f_M_holds_b11 N rec 133 a1 a2 a3 a4 a5 u) Q := by
  have hm := lay_M hL
  obtain ⟨fc, sg, m, hf6, hs3, hm9, hz⟩ := hz
  have ex : gI u 147 i = nI (1000 * fc + 100 * sg + m) := nI_ti (by rw [hn, hz]; omega)
  have d1 : gI u 147 i / 1000 = nI fc := by
    rw [ex, show (1000 : Int32) = nI 1000 from rfl, pk_div (by omega) (by omega) (by omega)]; congr 1; omega
  have d2 : gI u 147 i - gI u 147 i / 100 * 100 = nI m := by
    rw [ex, show (100 : Int32) = nI 100 from rfl, pk_rem (by omega) (by omega) (by omega)]; congr 1; omega
  have d3 : gI u 147 i / 100 - gI u 147 i / 100 / 10 * 10 = nI sg := by
    rw [ex, show (100 : Int32) = nI 100 from rfl, pk_div (by omega) (by omega) (by omega), show (10 : Int32) = nI 10 from rfl, pk_rem (by omega) (by omega) (by omega)]; congr 1; omega
  have i1 : (nI fc).toInt = (fc : Int) := nI_toInt (by omega)
  have i2 : (nI m).toInt = (m : Int) := nI_toInt (by omega)
  have i3 : (nI sg).toInt = (sg : Int) := nI_toInt (by omega)
  have kf := c_factOf (N := N) hL hwr hpd i1 hf6 h2 hs h3
  have tt := tst_t (ft := mft u s a3.toInt) hf6 hs3 hm9 hz
  unfold f_M_holds_b11
  simp only [hm, ok_gd, ok_rr1, ok_bd, true_and]
  refine ⟨ix_of h1 hc, ?_⟩
  refine ok_cdf (by rw [ti_le, nat_of h1, he, h5]; omega) ?_
  simp only [hm, ok_gd, ok_rr1, ok_bd, true_and]
  refine ⟨ix_of h5 hi, ?_⟩
  rw [nat_of h5]
  refine ok_cdf (by rw [ti_eq, hn, ti_n33]; omega) ?_
  refine ok_cdt (by rw [ti_le, hn, ti_0]; omega) ?_
  rw [ok_bd, d1]
  refine ok_call kf ?_
  rintro r v ⟨rfl, hr⟩
  simp only [hm, ok_gd, ok_rr1, ok_bd, true_and, d2, d3, nar0, nar1, nat_of h4]
  have g := ix_of (m := 100) h4 h4'
  rw [nat_of h4] at g
  have hsg : sg = 0 ∨ sg = 1 ∨ sg = 2 := by omega
  rcases hsg with rfl | rfl | rfl
  · rw [if_pos rfl] at tt
    refine ok_cdt (by rfl) ?_
    rw [ok_bd, ok_cd]
    simp only [ok_gd, ok_bd, true_and]
    refine ⟨fun q => ⟨g, hQ _ ?_⟩, fun q => ⟨g, hQ _ ?_⟩⟩
    · rw [ti_le, i2, hr] at q
      rw [tt, ti_0, decide_eq_false (by omega)]; rfl
    · rw [ti_le, i2, hr] at q
      rw [tt, ti_1, decide_eq_true (by omega)]; rfl
  · rw [if_neg (by omega), if_pos rfl] at tt
    refine ok_cdf (by rw [ti_eq, i3, ti_0]; omega) (ok_cdt (by rfl) ?_)
    rw [ok_bd, ok_cd]
    simp only [ok_gd, ok_bd, true_and]
    refine ⟨fun q => ⟨g, hQ _ ?_⟩, fun q => ⟨g, hQ _ ?_⟩⟩
    · rw [ti_eq, i2, hr] at q
      rw [tt, ti_1, decide_eq_true q]; rfl
    · rw [ti_eq, i2, hr] at q
      rw [tt, ti_0, decide_eq_false q]; rfl
  · rw [if_neg (by omega), if_neg (by omega)] at tt
    refine ok_cdf (by rw [ti_eq, i3, ti_0]; omega) (ok_cdf (by rw [ti_eq, i3, ti_1]; omega) ?_)
    rw [ok_bd, ok_cd]
    simp only [ok_gd, ok_bd, true_and]
    refine ⟨fun q => ⟨g, hQ _ ?_⟩, fun q => ⟨g, hQ _ ?_⟩⟩
    · rw [ti_le, i2, hr] at q
      rw [tt, ti_0, decide_eq_false (by omega)]; rfl
    · rw [ti_le, i2, hr] at q
      rw [tt, ti_1, decide_eq_true (by omega)]; rfl
end MH
