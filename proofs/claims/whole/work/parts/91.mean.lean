/-! ===== fractions; mean =====  -/
section FRAC
variable {N : Nat} {w : gW}
theorem c_MdivL (F : (Int32 × Int32 × gW → Option (Int32 × gW)) → Int32 × Int32 × gW → Option (Int32 × gW)) (eF : ∀ rec q, F rec q = f_M_divisor_b5 N rec q.1 q.2.1 q.2.2) :
    ∀ (k n x y : Nat) (a3 a4 : Int32), y ≤ k → k < n → x < 1000 → y < 1000 → a3.toInt = (x : Int) → a4.toInt = (y : Int) → ok (itr F n (a3, a4, w)) (fun r u => u = w ∧ r.toInt = ((Nat.gcd y x : Nat) : Int)) := by
  intro k
  induction k with
  | zero =>
    intro n x y a3 a4 h1 h2 hx hy h3 h4
    obtain ⟨n, rfl⟩ : ∃ j, n = j + 1 := ⟨n - 1, by omega⟩
    have y0 : y = 0 := by omega
    subst y0
    rw [itr_s, eF]
    unfold f_M_divisor_b5
    exact ok_cdt (by rw [ti_eq, ti_0]; exact h4) (ok_ret.mpr ⟨rfl, by rw [Nat.gcd_zero_left]; exact h3⟩)
  | succ k ih =>
    intro n x y a3 a4 h1 h2 hx hy h3 h4
    obtain ⟨n, rfl⟩ : ∃ j, n = j + 1 := ⟨n - 1, by omega⟩
    rw [itr_s, eF]
    unfold f_M_divisor_b5
    by_cases y0 : y = 0
    · subst y0
      exact ok_cdt (by rw [ti_eq, ti_0]; exact h4) (ok_ret.mpr ⟨rfl, by rw [Nat.gcd_zero_left]; exact h3⟩)
    · have hz : ¬ a4 = 0 := by rw [ti_eq, ti_0]; show ¬ a4.toInt = 0; omega
      have e1 : a3 - a3 / a4 * a4 = nI (x % y) := by rw [nI_ti h3, nI_ti h4, pk_rem (by omega) (by omega) (by omega)]
      have hlt : x % y < y := Nat.mod_lt _ (by omega)
      refine ok_cdf hz (ok_gdt hz ?_)
      simp only [ok_bd]
      show ok (itr F n (a4, a3 - a3 / a4 * a4, w)) _
      rw [e1, Nat.gcd_rec]
      exact ih n y (x % y) a4 _ (by omega) (by omega) hy (by omega) h4 (nI_toInt (by omega))
theorem c_XdivL (F : (Int32 × Int32 × Int32 × gW → Option (Int32 × gW)) → Int32 × Int32 × Int32 × gW → Option (Int32 × gW)) (eF : ∀ rec q, F rec q = f_X_commonDivisor_b7 N rec q.1 q.2.1 q.2.2.1 q.2.2.2) :
    ∀ (k n x y : Nat) (a2 a3 a4 : Int32), y ≤ k → k < n → x < 1000 → k < 90 → a2.toInt = (x : Int) → a3.toInt = (y : Int) → 0 ≤ a4.toInt → a4.toInt + (k : Int) < 99 → ok (itr F n (a2, a3, a4, w)) (fun r u => u = w ∧ r.toInt = ((Nat.gcd y x : Nat) : Int)) := by
  intro k
  induction k with
  | zero =>
    intro n x y a2 a3 a4 h1 h2 hx hy h3 h4 h5 h6
    obtain ⟨n, rfl⟩ : ∃ j, n = j + 1 := ⟨n - 1, by omega⟩
    have y0 : y = 0 := by omega
    subst y0
    rw [itr_s, eF]
    unfold f_X_commonDivisor_b7
    refine ok_cdf (by rw [ti_le, ti_100]; show ¬ 100 ≤ a4.toInt; omega) ?_
    exact ok_cdt (by rw [ti_eq, ti_0]; exact h4) (ok_ret.mpr ⟨rfl, by rw [Nat.gcd_zero_left]; exact h3⟩)
  | succ k ih =>
    intro n x y a2 a3 a4 h1 h2 hx hy h3 h4 h5 h6
    obtain ⟨n, rfl⟩ : ∃ j, n = j + 1 := ⟨n - 1, by omega⟩
    rw [itr_s, eF]
    unfold f_X_commonDivisor_b7
    refine ok_cdf (by rw [ti_le, ti_100]; show ¬ 100 ≤ a4.toInt; omega) ?_
    by_cases y0 : y = 0
    · subst y0
      exact ok_cdt (by rw [ti_eq, ti_0]; exact h4) (ok_ret.mpr ⟨rfl, by rw [Nat.gcd_zero_left]; exact h3⟩)
    · have hz : ¬ a3 = 0 := by rw [ti_eq, ti_0]; show ¬ a3.toInt = 0; omega
      have e1 : a2 - a2 / a3 * a3 = nI (x % y) := by rw [nI_ti h3, nI_ti h4, pk_rem (by omega) (by omega) (by omega)]
      have hlt : x % y < y := Nat.mod_lt _ (by omega)
      have g1 : 0 ≤ a4.toInt + 1 := by omega
      have g2 : a4.toInt + 1 + (k : Int) < 99 := by omega
      have g3 : a4.toInt < 2147483647 := by omega
      refine ok_cdf hz (ok_gdt hz ?_)
      simp only [ok_bd]
      show ok (itr F n (a3, a2 - a2 / a3 * a3, a4 + 1, w)) _
      rw [e1, Nat.gcd_rec]
      exact ih n y (x % y) a3 _ _ (by omega) (by omega) (by omega) (by omega) h4 (nI_toInt (by omega)) (by rw [ti_add1 g3]; exact g1) (by rw [ti_add1 g3]; exact g2)
def frS (x y : Nat) (part : Int) : Int := if part = 0 then ((x / Nat.gcd y x : Nat) : Int) else ((y / Nat.gcd y x : Nat) : Int)
theorem div_n {a d : Int32} {x g : Nat} (h1 : a.toInt = (x : Int)) (h2 : d.toInt = (g : Int)) (hg : 0 < g) : (a / d).toInt64.toInt = ((x / g : Nat) : Int) := by
  rw [tl_i, ti_div (by omega) (by omega), h1, h2]; rfl
theorem c_frac {a b part : Int32} {x y : Nat} (hN : 1000 ≤ N) (h1 : a.toInt = (x : Int)) (h2 : b.toInt = (y : Int)) (hx : x < 1000) (hy : 0 < y ∧ y < 90) : ok (f_X_partOfFraction N a b part w) (fun r u => u = w ∧ r.toInt = frS x y part.toInt) := by
  have hg : 0 < Nat.gcd y x := Nat.gcd_pos_of_pos_left _ hy.1
  unfold f_X_partOfFraction f_X_partOfFraction_b0
  have t := c_XdivL (N := N) (w := w) _ (fun _ _ => rfl) y N x y a b 0 (Nat.le_refl _) (by omega) hx (by omega) h1 h2 (by rw [ti_0]; decide) (by rw [ti_0]; omega)
  have t' : ok (f_X_commonDivisor N a b w) (fun r u => u = w ∧ r.toInt = ((Nat.gcd y x : Nat) : Int)) := t
  refine ok_call t' ?_
  rintro d u ⟨rfl, hd⟩
  have hz : ¬ d = 0 := by rw [ti_eq, ti_0, hd]; omega
  refine ok_cdf hz ?_
  rw [ok_cd]
  refine ⟨fun c => ?_, fun c => ?_⟩
  · rw [ti_eq, ti_0] at c
    refine ok_gdt hz ?_
    simp only [ok_bd]
    refine ok_ret.mpr ⟨rfl, ?_⟩
    rw [div_n h1 hd hg]; unfold frS; rw [if_pos c]
  · rw [ti_eq, ti_0] at c
    refine ok_gdt hz ?_
    simp only [ok_bd]
    refine ok_ret.mpr ⟨rfl, ?_⟩
    rw [div_n h2 hd hg]; unfold frS; rw [if_neg c]
theorem c_lowest {a b part : Int32} {x y : Nat} (hN : 1000 ≤ N) (hL : Lay w) (h1 : a.toInt = (x : Int)) (h2 : b.toInt = (y : Int)) (hx : x < 1000) (hy : 0 < y ∧ y < 90) : ok (f_M_lowest N 133 a b part w) (fun r u => u = w ∧ r.toInt = frS x y part.toInt) := by
  have hg : 0 < Nat.gcd y x := Nat.gcd_pos_of_pos_left _ hy.1
  have hm := lay_M hL
  unfold f_M_lowest f_M_lowest_b0
  simp only [ok_gd, ok_bd, ok_rr1, ok_nr0, ok_nr1, ok_ret, true_and, and_true, not_false_eq_true, sh_sI, sh_sR, sh_sL, gR_sI, gR_sL, gI_sR, gI_sL, sh_cI, gR_cI, hm]
  have t := c_MdivL (N := N) (w := w) _ (fun _ _ => rfl) y N x y a b (Nat.le_refl _) (by omega) hx (by omega) h1 h2
  have t' : ok (f_M_divisor N 133 a b w) (fun r u => u = w ∧ r.toInt = ((Nat.gcd y x : Nat) : Int)) := t
  refine ok_call t' ?_
  rintro d u ⟨rfl, hd⟩
  have hz : ¬ d = 0 := by rw [ti_eq, ti_0, hd]; omega
  rw [ok_cd]
  refine ⟨fun c => ?_, fun c => ?_⟩
  · rw [ti_eq, ti_0] at c
    refine ok_gdt hz ?_
    simp only [ok_bd]
    refine ok_ret.mpr ⟨rfl, ?_⟩
    rw [div_n h1 hd hg]; unfold frS; rw [if_pos c]
  · rw [ti_eq, ti_0] at c
    refine ok_gdt hz ?_
    simp only [ok_bd]
    refine ok_ret.mpr ⟨rfl, ?_⟩
    rw [div_n h2 hd hg]; unfold frS; rw [if_neg c]
end FRAC
section MEAN
variable {N c tp b p : Nat} {w u z : gW} {kd v ob : Nat → Nat} {ro : Nat → Nat → Int} {L : List Cl} {A : PS} {a a1 a2 : Int32} {price : Int}
noncomputable def mnS (g : Nat → Option (List Nat)) : Nat → Int × Nat
  | 0 => (0, 0)
  | k + 1 => match g k with
    | none => mnS g k
    | some y => ((mnS g k).1 + hcnt y, (mnS g k).2 + 1)
/-- what both answer for a mean -/
def mnR (q : Int × Nat) (part : Int) (r : Int64) : Prop := (q.2 = 0 ∧ r = -9223372036854775808) ∨ (q.2 ≠ 0 ∧ r.toInt = frS q.1.toNat q.2 part)
theorem mnR_eq {q : Int × Nat} {part : Int} {r r' : Int64} (h : mnR q part r) (g : mnR q part r') : r = r' := by
  rcases h with ⟨h1, h2⟩ | ⟨h1, h2⟩ <;> rcases g with ⟨g1, g2⟩ | ⟨g1, g2⟩
  · rw [h2, g2]
  · exact absurd h1 g1
  · exact absurd g1 h1
  · exact Int64.toInt_inj.mp (by rw [h2, g2])
set_option maxHeartbeats 1000000 in
theorem c_Xmean (hN : 1000 ≤ N) (h : CX w c tp b kd v ob ro L A) (h1 : a1.toInt = price) (hpr : 1 ≤ price ∧ price ≤ 199) : ok (f_X_mean_l28 N 0 a1 a2 0 0 0 w) (fun r u => RF w u ∧ mnR (mnS (fun p => cS L kd v ro A p price) c) a2.toInt r) := by
  have hc4 : c ≤ 4 := h.2.2.2.2.2.1
  unfold f_X_mean_l28
  refine itr_up (fun k q => q.1 = 0 ∧ q.2.1 = a1 ∧ q.2.2.1 = a2 ∧ q.2.2.2.2.2.1.toInt = (k : Int) ∧ RF w q.2.2.2.2.2.2 ∧ q.2.2.2.1.toInt = (mnS (fun p => cS L kd v ro A p price) k).1 ∧ q.2.2.2.2.1.toInt = ((mnS (fun p => cS L kd v ro A p price) k).2 : Int) ∧ 0 ≤ (mnS (fun p => cS L kd v ro A p price) k).1 ∧ (mnS (fun p => cS L kd v ro A p price) k).1 ≤ 12 * (k : Int) ∧ (mnS (fun p => cS L kd v ro A p price) k).2 ≤ k) c ?_ ?_ N 0 _ (by omega) ?_ (by omega)
  · rintro rec k ⟨b0, b1, b2, a3, a4, a5, u⟩ hk ⟨e0, e1, e2, e5, f, e3, e4, i1, i2, i3⟩ IH
    simp only at e0 e1 e2 e5 f e3 e4
    subst e0 e1 e2
    obtain ⟨hS, hca, hma, -, hcn9, -, hob⟩ := h.rf f
    have hx := lay_X hS.1
    have n5 := nat_of e5
    have g5 := ix_of (m := 4) e5 (by omega)
    rw [n5] at g5
    have k9 : k < 2147483647 := by omega
    show ok (f_X_mean_b28 N rec 0 b1 b2 a3 a4 a5 u) _
    unfold f_X_mean_b28
    simp only [ok_gd, ok_bd, ok_rr1, ok_nr0, ok_nr1, ok_ret, true_and, and_true, not_false_eq_true, sh_sI, sh_sR, sh_sL, gR_sI, gR_sL, gI_sR, gI_sL, sh_cI, gR_cI, hx]
    refine ok_cdf (by rw [ti_le, hcn9, e5]; omega) ?_
    simp only [ok_gd, ok_bd, ok_rr1, ok_nr0, ok_nr1, ok_ret, true_and, and_true, not_false_eq_true, sh_sI, sh_sR, sh_sL, gR_sI, gR_sL, gI_sR, gI_sL, sh_cI, gR_cI, hx, n5, g5, hob k hk]
    refine ok_call (hca.choose hN hk h1 ⟨by omega, by omega⟩) ?_
    rintro r1 u1 ⟨f1, hca1, hr1⟩
    have fr : RF w u1 := f.tr (scRM f1).rF
    rcases hr1 with ⟨hr1, hcn⟩ | ⟨hr1, y, hcn, hh⟩
    · have e : mnS (fun p => cS L kd v ro A p price) (k + 1) = mnS (fun p => cS L kd v ro A p price) k := by simp only [mnS, hcn]
      refine ok_cdt (by rw [ti_eq, hr1, ti_0]) ?_
      simp only [ok_bd]
      refine IH _ ?_
      rw [e]
      exact ⟨rfl, rfl, rfl, ti_p1 e5 k9, fr, e3, e4, i1, by omega, by omega⟩
    · have e : mnS (fun p => cS L kd v ro A p price) (k + 1) = ((mnS (fun p => cS L kd v ro A p price) k).1 + hcnt y, (mnS (fun p => cS L kd v ro A p price) k).2 + 1) := by simp only [mnS, hcn]
      have hx1 := lay_X hca1.1
      have n2 := (nS_rg (kd := kd) (v := v) (ro := ro) hca1.2.2.2.2.2.2.2.2.2.2.1 hca1.2.2.2.2.2.1.2.2.1 hca1.2.2.2.2.2.1.2.2.2.1 (by omega) hcn (by omega)).2.1.sum
      have e9 := hh.2.1.2.2.2
      have t1 : (a3 + gI u1 66 9).toInt = (mnS (fun p => cS L kd v ro A p price) k).1 + hcnt y := by rw [ti_add] <;> rw [e9, e3] <;> omega
      have k4 : (mnS (fun p => cS L kd v ro A p price) k).2 < 2147483647 := by omega
      refine ok_cdf (by rw [ti_eq, hr1, ti_0]; decide) ?_
      simp only [ok_gd, ok_bd, ok_rr1, ok_nr0, ok_nr1, ok_ret, true_and, and_true, not_false_eq_true, sh_sI, sh_sR, sh_sL, gR_sI, gR_sL, gI_sR, gI_sL, sh_cI, gR_cI, hx1]
      refine IH _ ?_
      rw [e]
      exact ⟨rfl, rfl, rfl, ti_p1 e5 k9, fr, t1, ti_p1 e4 k4, by simp only; omega, by simp only; omega, by simp only; omega⟩
  · rintro rec ⟨b0, b1, b2, a3, a4, a5, u⟩ ⟨e0, e1, e2, e5, f, e3, e4, i1, i2, i3⟩
    simp only at e0 e1 e2 e5 f e3 e4
    subst e0 e1 e2
    obtain ⟨hS, hca, hma, -, hcn9, -, hob⟩ := h.rf f
    have hx := lay_X hS.1
    show ok (f_X_mean_b28 N rec 0 b1 b2 a3 a4 a5 u) _
    unfold f_X_mean_b28
    simp only [ok_gd, ok_bd, ok_rr1, ok_nr0, ok_nr1, ok_ret, true_and, and_true, not_false_eq_true, sh_sI, sh_sR, sh_sL, gR_sI, gR_sL, gI_sR, gI_sL, sh_cI, gR_cI, hx]
    refine ok_cdt (by rw [ti_le, hcn9, e5]; omega) ?_
    rw [ok_cd]
    refine ⟨fun cc => ?_, fun cc => ?_⟩
    · rw [ti_eq, e4, ti_0] at cc
      exact ok_ret.mpr ⟨f, Or.inl ⟨by omega, rfl⟩⟩
    · rw [ti_eq, e4, ti_0] at cc
      refine ok_call (c_frac (x := (mnS (fun p => cS L kd v ro A p price) c).1.toNat) hN (by rw [e3]; omega) e4 (by omega) (by omega)) ?_
      rintro r u' ⟨rfl, hr⟩
      exact ok_ret.mpr ⟨f, Or.inr ⟨by omega, hr⟩⟩
  · exact ⟨rfl, rfl, rfl, rfl, RF.rf, rfl, rfl, Int.le_refl _, by simp [mnS], Nat.le_refl _⟩
set_option maxHeartbeats 1000000 in
theorem c_Mmean (hN : 1000 ≤ N) (h : CX w c tp b kd v ob ro L A) (h1 : a1.toInt = price) (hpr : 1 ≤ price ∧ price ≤ 199) : ok (f_M_mean_l30 N 133 a1 a2 0 0 0 w) (fun r u => RF w u ∧ mnR (mnS (fun p => cS L kd v ro A p price) c) a2.toInt r) := by
  have hc4 : c ≤ 4 := h.2.2.2.2.2.1
  unfold f_M_mean_l30
  refine itr_up (fun k q => q.1 = 133 ∧ q.2.1 = a1 ∧ q.2.2.1 = a2 ∧ q.2.2.2.2.2.1.toInt = (k : Int) ∧ RF w q.2.2.2.2.2.2 ∧ q.2.2.2.1.toInt = (mnS (fun p => cS L kd v ro A p price) k).1 ∧ q.2.2.2.2.1.toInt = ((mnS (fun p => cS L kd v ro A p price) k).2 : Int) ∧ 0 ≤ (mnS (fun p => cS L kd v ro A p price) k).1 ∧ (mnS (fun p => cS L kd v ro A p price) k).1 ≤ 12 * (k : Int) ∧ (mnS (fun p => cS L kd v ro A p price) k).2 ≤ k) c ?_ ?_ N 0 _ (by omega) ?_ (by omega)
  · rintro rec k ⟨b0, b1, b2, a3, a4, a5, u⟩ hk ⟨e0, e1, e2, e5, f, e3, e4, i1, i2, i3⟩ IH
    simp only at e0 e1 e2 e5 f e3 e4
    subst e0 e1 e2
    obtain ⟨hS, hca, hma, hcn0, hcn9, -, hob⟩ := h.rf f
    have hm := lay_M hS.1
    have k9 : k < 2147483647 := by omega
    show ok (f_M_mean_b30 N rec 133 b1 b2 a3 a4 a5 u) _
    unfold f_M_mean_b30
    simp only [ok_gd, ok_bd, ok_rr1, ok_nr0, ok_nr1, ok_ret, true_and, and_true, not_false_eq_true, sh_sI, sh_sR, sh_sL, gR_sI, gR_sL, gI_sR, gI_sL, sh_cI, gR_cI, hm]
    refine ok_cdf (by rw [ti_le, ← hcn0, e5]; omega) ?_
    refine ok_call (hma.choose hN hk e5 h1 ⟨by omega, by omega⟩) ?_
    rintro r1 u1 ⟨f1, hr1⟩
    have fr : RF w u1 := f.tr (scRM (MT.st f1)).rF
    rcases hr1 with ⟨hr1, hcn⟩ | ⟨hr1, y, hcn, h34, hh⟩
    · have e : mnS (fun p => cS L kd v ro A p price) (k + 1) = mnS (fun p => cS L kd v ro A p price) k := by simp only [mnS, hcn]
      refine ok_cdt (by rw [ti_eq, hr1, ti_0]) ?_
      simp only [ok_bd]
      refine IH _ ?_
      rw [e]
      exact ⟨rfl, rfl, rfl, ti_p1 e5 k9, fr, e3, e4, i1, by omega, by omega⟩
    · have e : mnS (fun p => cS L kd v ro A p price) (k + 1) = ((mnS (fun p => cS L kd v ro A p price) k).1 + hcnt y, (mnS (fun p => cS L kd v ro A p price) k).2 + 1) := by simp only [mnS, hcn]
      have hm1 := lay_M (h.rf fr).1.1
      have n2' := (nS_rg (kd := kd) (v := v) (ro := ro) hca.2.2.2.2.2.2.2.2.2.2.1 hca.2.2.2.2.2.1.2.2.1 hca.2.2.2.2.2.1.2.2.2.1 (by omega) hcn (by omega)).2.1
      have n2 := n2'.sum
      refine ok_cdf (by rw [ti_eq, hr1, ti_0]; decide) ?_
      simp only [ok_gd, ok_bd, ok_rr1, ok_nr0, ok_nr1, ok_ret, true_and, and_true, not_false_eq_true, sh_sI, sh_sR, sh_sL, gR_sI, gR_sL, gI_sR, gI_sL, sh_cI, gR_cI, hm1]
      refine ok_call (c_coinsOf hN (h.rf fr).1.1 n2' (fun s hs => (hh s hs).1)) ?_
      rintro r2 u2 ⟨rfl, hr2⟩
      have t1 : (a3 + r2).toInt = (mnS (fun p => cS L kd v ro A p price) k).1 + hcnt y := by rw [ti_add] <;> rw [hr2, e3] <;> omega
      have k4 : (mnS (fun p => cS L kd v ro A p price) k).2 < 2147483647 := by omega
      simp only [ok_bd]
      refine IH _ ?_
      rw [e]
      exact ⟨rfl, rfl, rfl, ti_p1 e5 k9, fr, t1, ti_p1 e4 k4, by simp only; omega, by simp only; omega, by simp only; omega⟩
  · rintro rec ⟨b0, b1, b2, a3, a4, a5, u⟩ ⟨e0, e1, e2, e5, f, e3, e4, i1, i2, i3⟩
    simp only at e0 e1 e2 e5 f e3 e4
    subst e0 e1 e2
    obtain ⟨hS, hca, hma, hcn0, hcn9, -, hob⟩ := h.rf f
    have hm := lay_M hS.1
    show ok (f_M_mean_b30 N rec 133 b1 b2 a3 a4 a5 u) _
    unfold f_M_mean_b30
    simp only [ok_gd, ok_bd, ok_rr1, ok_nr0, ok_nr1, ok_ret, true_and, and_true, not_false_eq_true, sh_sI, sh_sR, sh_sL, gR_sI, gR_sL, gI_sR, gI_sL, sh_cI, gR_cI, hm]
    refine ok_cdt (by rw [ti_le, ← hcn0, e5]; omega) ?_
    rw [ok_cd]
    refine ⟨fun cc => ?_, fun cc => ?_⟩
    · rw [ti_eq, e4, ti_0] at cc
      exact ok_ret.mpr ⟨f, Or.inl ⟨by omega, rfl⟩⟩
    · rw [ti_eq, e4, ti_0] at cc
      refine ok_call (c_lowest (x := (mnS (fun p => cS L kd v ro A p price) c).1.toNat) hN hS.1 (by rw [e3]; omega) e4 (by omega) (by omega)) ?_
      rintro r u' ⟨rfl, hr⟩
      exact ok_ret.mpr ⟨f, Or.inr ⟨by omega, hr⟩⟩
  · exact ⟨rfl, rfl, rfl, rfl, RF.rf, rfl, rfl, Int.le_refl _, by simp [mnS], Nat.le_refl _⟩
theorem p_mean (hN : 1000 ≤ N) (h : Sim w) : ok (f_X_mean N 0 a1 a2 w) (fun r w1 => ok (f_M_mean N 133 a1 a2 w1) (fun r' w2 => r = r' ∧ Sim w2)) := by
  obtain ⟨c, tp, b, kd, v, ob, ro, L, A, hx0⟩ := h.cx
  have mod : ∀ (z : gW) (Q : Int64 → gW → Prop), Lay z → (¬ ((1 ≤ a1.toInt ∧ a1.toInt ≤ 199) ∧ 0 ≤ a2.toInt ∧ a2.toInt ≤ 1) → Q (-9223372036854775808) z) → ((1 ≤ a1.toInt ∧ a1.toInt ≤ 199) → (0 ≤ a2.toInt ∧ a2.toInt ≤ 1) → ok (f_M_mean_l30 N 133 a1 a2 0 0 0 z) Q) → ok (f_M_mean N 133 a1 a2 z) Q := by
    intro z Q hL h1 h2
    have hm := lay_M hL
    unfold f_M_mean f_M_mean_b0
    simp only [ok_gd, ok_bd, ok_rr1, ok_nr0, ok_nr1, ok_ret, true_and, and_true, not_false_eq_true, sh_sI, sh_sR, sh_sL, gR_sI, gR_sL, gI_sR, gI_sL, sh_cI, gR_cI, hm]
    refine ok_call (c_Mprice hL) ?_
    rintro r1 u1 ⟨rfl, hr1⟩
    rw [ok_cd]
    refine ⟨fun c => ok_ret.mpr (h1 (fun z => (hr1.z.mp c) z.1)), fun c => ?_⟩
    simp only [ok_gd, ok_bd, ok_rr1, ok_nr0, ok_nr1, ok_ret, true_and, and_true, not_false_eq_true, sh_sI, sh_sR, sh_sL, gR_sI, gR_sL, gI_sR, gI_sL, sh_cI, gR_cI, hm]
    refine ok_call c_Min ?_
    rintro r2 u2 ⟨rfl, hr2⟩
    rw [ti_0, ti_1] at hr2
    rw [ok_cd]
    exact ⟨fun d => ok_ret.mpr (h1 (fun z => (hr2.z.mp d) z.2)), fun d => h2 (Classical.not_not.mp (fun z => c (hr1.z.mpr z))) (Classical.not_not.mp (fun z => d (hr2.z.mpr z)))⟩
  unfold f_X_mean f_X_mean_b0
  refine ok_call c_Xprice ?_
  rintro r1 u1 ⟨rfl, hr1⟩
  rw [ok_cd]
  refine ⟨fun c => ?_, fun c => ?_⟩
  · have c' := hr1.z.mp c
    exact ok_ret.mpr (mod u1 _ h.1 (fun _ => ⟨rfl, h⟩) (fun z => absurd z c'))
  · have hpr : 1 ≤ a1.toInt ∧ a1.toInt ≤ 199 := Classical.not_not.mp (fun z => c (hr1.z.mpr z))
    rw [ok_cd]
    refine ⟨fun d => ?_, fun d => ?_⟩
    · rw [ti_lt, ti_0] at d
      exact ok_ret.mpr (mod u1 _ h.1 (fun _ => ⟨rfl, h⟩) (fun _ z => absurd z.1 (by omega)))
    · rw [ti_lt, ti_0] at d
      rw [ok_cd]
      refine ⟨fun g => ?_, fun g => ?_⟩
      · rw [ti_le, ti_1] at g
        refine (c_Xmean hN hx0 rfl hpr).mono ?_
        rintro r2 u2 ⟨f2, hr2⟩
        have hx2 := hx0.rf f2
        refine mod u2 _ hx2.1.1 (fun z => absurd ⟨hpr, by omega, g⟩ z) (fun _ _ => ?_)
        refine (c_Mmean hN hx2 rfl hpr).mono ?_
        rintro r3 u3 ⟨f3, hr3⟩
        exact ⟨mnR_eq hr2 hr3, hx2.1.rf f3⟩
      · rw [ti_le, ti_1] at g
        exact ok_ret.mpr (mod u1 _ h.1 (fun _ => ⟨rfl, h⟩) (fun _ z => absurd z.2 g))
end MEAN
