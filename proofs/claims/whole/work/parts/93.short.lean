/-! ===== shortOf, fits =====  -/
section SHORT
variable {N c tp b p : Nat} {w u z : gW} {kd v ob : Nat → Nat} {ro : Nat → Nat → Int} {L : List Cl} {A : PS} {a a1 a2 : Int32} {price : Int} {W : Nat}
noncomputable def shS (g : Nat → Option (List Nat)) (wv : Int) : Nat → Nat → Int
  | 0, _ => -5
  | d + 1, n => if wv < (n : Int) then -5 else match g n with
    | none => (n : Int)
    | some _ => shS g wv d (n + 1)
theorem shS_s {g : Nat → Option (List Nat)} {wv : Int} {d n : Nat} : shS g wv (d + 1) n = if wv < (n : Int) then -5 else match g n with
    | none => (n : Int)
    | some _ => shS g wv d (n + 1) := rfl
theorem shS_0 {g : Nat → Option (List Nat)} {wv : Int} {n : Nat} : shS g wv 0 n = -5 := rfl
def wvS (f : Nat → Int) : Int := f 0 * wo 0 + f 1 * wo 1 + f 2 * wo 2 + f 3 * wo 3 + f 4 * wo 4 + f 5 * wo 5
theorem ti_61 : (61 : Int32).toInt = 61 := rfl
theorem c_Wworth (hN : 1000 ≤ N) (h : CA w W c tp kd v ob ro L A) (hp : p < c) (h1 : a1.toInt = (p : Int)) : ok (f_Wo_worth N W a1 w) (fun r u => u = w ∧ r.toInt = wvS (A.1 p)) := by
  obtain ⟨hL, hW, hT, hp4, -, -, -, q1, -⟩ := h.cp hp
  obtain ⟨w0, -, w2, -, -, -, -, -, -, -, -, -, z2, -⟩ := lay_W hL hW
  obtain ⟨y1, y2, -⟩ := lay_Wp hL hW hp4
  obtain ⟨S, S0, S1, S6, SB⟩ := sum6 (f := fun s => A.1 p s * wo s)
  have key : ∀ s, s < 6 → 0 ≤ A.1 p s * wo s ∧ A.1 p s * wo s ≤ 99 * 50 := fun s h => mul_in (q1 s h).2 ⟨by have := wo_in (s := s); omega, (wo_in (s := s)).2⟩
  have n1 := nat_of h1
  have g1 := ix_of (m := 4) h1 hp4
  rw [n1] at g1
  unfold f_Wo_worth f_Wo_worth_b0 f_Wo_worth_l4 wvS
  rw [← S6]
  refine itr_up (fun k q => q.1 = W ∧ q.2.1 = a1 ∧ q.2.2.2.2 = w ∧ q.2.2.2.1.toInt = (k : Int) ∧ q.2.2.1.toInt = S k) 6 ?_ ?_ N 0 _ (by omega) ?_ (by omega)
  · rintro rec k ⟨b0, b1, a2, a3, u⟩ hk ⟨e0, e1, e2, e3, e4⟩ IH
    simp only at e0 e1 e2 e3 e4
    subst e0 e1 e2
    have B := SB (99 * 50) k (fun j hj => key j (by omega))
    have B1 := key k hk
    have q := q1 k hk
    have n2 := nat_of e3
    have g2 := ix_of (m := 6) e3 hk
    rw [n2] at g2
    have k9 : k < 2147483647 := by omega
    have t0 : (gI u (b0 + 3 + p) k * gWorth k).toInt = A.1 p k * wo k := by rw [ti_mul] <;> rw [q.1, gWorth_i hk] <;> omega
    have t1 : (a2 + gI u (b0 + 3 + p) k * gWorth k).toInt = S (k + 1) := by rw [S1, ti_add] <;> rw [t0, e4] <;> omega
    refine ok_cdf (by rw [ti_le, e3, ti_6]; omega) ?_
    simp only [ok_gd, ok_bd, ok_rr1, ok_nr0, ok_nr1, ok_ret, true_and, and_true, not_false_eq_true, sh_sI, sh_sR, sh_sL, gR_sI, gR_sL, gI_sR, gI_sL, sh_cI, gR_cI, w0, w2, z2, y1, y2, n1, n2, g1, g2]
    refine IH _ ?_
    exact ⟨rfl, rfl, rfl, ti_p1 e3 k9, t1⟩
  · rintro rec ⟨b0, b1, a2, a3, u⟩ ⟨e0, e1, e2, e3, e4⟩
    simp only at e0 e1 e2 e3 e4
    subst e0 e1 e2
    refine ok_cdt (by rw [ti_le, e3, ti_6]; decide) ?_
    exact ok_ret.mpr ⟨rfl, e4⟩
  · exact ⟨rfl, rfl, rfl, rfl, by rw [S0]; rfl⟩
theorem c_Xshort (hN : 1000 ≤ N) (h : CX w c tp b kd v ob ro L A) (hp : p < c) (h2 : a2.toInt = wvS (A.1 p)) : ok (f_X_shortOf_l24 N 0 (ob p) a2 1 w) (fun r u => RF w u ∧ r.toInt = shS (fun n => cS L kd v ro A p n) (wvS (A.1 p)) 60 1) := by
  generalize hR : shS (fun n => cS L kd v ro A p n) (wvS (A.1 p)) 60 1 = R
  unfold f_X_shortOf_l24
  refine itr_up (fun k q => q.1 = 0 ∧ q.2.1 = ob p ∧ q.2.2.1 = a2 ∧ q.2.2.2.1.toInt = ((k + 1 : Nat) : Int) ∧ RF w q.2.2.2.2 ∧ shS (fun n => cS L kd v ro A p n) (wvS (A.1 p)) (60 - k) (k + 1) = R) 60 ?_ ?_ N 0 _ (by omega) ?_ (by omega)
  · rintro rec k ⟨b0, b1, b2, a4, u⟩ hk ⟨e0, e1, e2, e5, f, e4⟩ IH
    simp only at e0 e1 e2 e5 f e4
    subst e0 e1 e2
    obtain ⟨hS, hca, -⟩ := h.rf f
    have hx := lay_X hS.1
    have k9 : k + 1 < 2147483647 := by omega
    obtain ⟨d, hd⟩ : ∃ d, 60 - k = d + 1 := ⟨59 - k, by omega⟩
    have hd' : 60 - (k + 1) = d := by omega
    rw [hd] at e4
    rw [shS_s] at e4
    refine ok_cdf (by rw [ti_lt, e5, ti_60]; omega) ?_
    rw [ok_cd]
    refine ⟨fun c => ?_, fun c => ?_⟩
    · rw [ti_lt, h2, e5] at c
      rw [if_pos c] at e4
      exact ok_ret.mpr ⟨f, by rw [← e4]; exact ti_n5⟩
    · rw [ti_lt, h2, e5] at c
      rw [if_neg c] at e4
      simp only [ok_gd, ok_bd, ok_rr1, ok_nr0, ok_nr1, ok_ret, true_and, and_true, not_false_eq_true, sh_sI, sh_sR, sh_sL, gR_sI, gR_sL, gI_sR, gI_sL, sh_cI, gR_cI, hx]
      refine ok_call (hca.canPay (price := ((k + 1 : Nat) : Int)) hN hp e5 (by omega)) ?_
      rintro r1 u1 ⟨f1, hr1⟩
      have fr : RF w u1 := f.tr (scRM f1).rF
      rw [ok_cd]
      refine ⟨fun g => ?_, fun g => ?_⟩
      · have hn := Classical.not_not.mp (hr1.z.mp g)
        simp only [hn] at e4
        exact ok_ret.mpr ⟨fr, by rw [← e4]; exact e5⟩
      · have hn : cS L kd v ro A p ((k + 1 : Nat) : Int) ≠ none := Classical.not_not.mp (fun z => g (hr1.z.mpr z))
        obtain ⟨y, hy⟩ := Option.ne_none_iff_exists'.mp hn
        simp only [hy] at e4
        simp only [ok_bd]
        refine IH _ ?_
        exact ⟨rfl, rfl, rfl, ti_p1 e5 k9, fr, by rw [hd']; exact e4⟩
  · rintro rec ⟨b0, b1, b2, a4, u⟩ ⟨e0, e1, e2, e5, f, e4⟩
    simp only at e0 e1 e2 e5 f e4
    subst e0 e1 e2
    refine ok_cdt (by rw [ti_lt, e5, ti_60]; decide) (ok_ret.mpr ⟨f, by rw [← e4]; exact ti_n5⟩)
  · exact ⟨rfl, rfl, rfl, rfl, RF.rf, hR⟩
theorem c_Mshort (hN : 1000 ≤ N) (h : CX w c tp b kd v ob ro L A) (hp : p < c) (h1 : a1.toInt = (p : Int)) (h2 : a2.toInt = wvS (A.1 p)) : ok (f_M_shortOf_l49 N 133 a1 a2 1 w) (fun r u => RF w u ∧ r.toInt = shS (fun n => cS L kd v ro A p n) (wvS (A.1 p)) 60 1) := by
  generalize hR : shS (fun n => cS L kd v ro A p n) (wvS (A.1 p)) 60 1 = R
  unfold f_M_shortOf_l49
  refine itr_up (fun k q => q.1 = 133 ∧ q.2.1 = a1 ∧ q.2.2.1 = a2 ∧ q.2.2.2.1.toInt = ((k + 1 : Nat) : Int) ∧ RF w q.2.2.2.2 ∧ shS (fun n => cS L kd v ro A p n) (wvS (A.1 p)) (60 - k) (k + 1) = R) 60 ?_ ?_ N 0 _ (by omega) ?_ (by omega)
  · rintro rec k ⟨b0, b1, b2, a4, u⟩ hk ⟨e0, e1, e2, e5, f, e4⟩ IH
    simp only at e0 e1 e2 e5 f e4
    subst e0 e1 e2
    obtain ⟨hS, -, hma, -⟩ := h.rf f
    have hm := lay_M hS.1
    have k9 : k + 1 < 2147483647 := by omega
    obtain ⟨d, hd⟩ : ∃ d, 60 - k = d + 1 := ⟨59 - k, by omega⟩
    have hd' : 60 - (k + 1) = d := by omega
    rw [hd] at e4
    rw [shS_s] at e4
    refine ok_cdf (by rw [ti_le, e5, ti_61]; omega) ?_
    rw [ok_cd]
    refine ⟨fun c => ?_, fun c => ?_⟩
    · rw [ti_lt, h2, e5] at c
      rw [if_pos c] at e4
      exact ok_ret.mpr ⟨f, by rw [← e4]; exact ti_n5⟩
    · rw [ti_lt, h2, e5] at c
      rw [if_neg c] at e4
      simp only [ok_gd, ok_bd, ok_rr1, ok_nr0, ok_nr1, ok_ret, true_and, and_true, not_false_eq_true, sh_sI, sh_sR, sh_sL, gR_sI, gR_sL, gI_sR, gI_sL, sh_cI, gR_cI, hm]
      refine ok_call (hma.choose (price := ((k + 1 : Nat) : Int)) hN hp h1 e5 (by omega)) ?_
      rintro r1 u1 ⟨f1, hr1⟩
      have fr : RF w u1 := f.tr (scRM (MT.st f1)).rF
      rcases hr1 with ⟨hr1, hn⟩ | ⟨hr1, y, hy, -⟩
      · rw [hn] at e4
        exact ok_cdt (by rw [ti_eq, hr1, ti_0]) (ok_ret.mpr ⟨fr, by rw [← e4]; exact e5⟩)
      · rw [hy] at e4
        refine ok_cdf (by rw [ti_eq, hr1, ti_0]; decide) ?_
        simp only [ok_bd]
        refine IH _ ?_
        exact ⟨rfl, rfl, rfl, ti_p1 e5 k9, fr, by rw [hd']; exact e4⟩
  · rintro rec ⟨b0, b1, b2, a4, u⟩ ⟨e0, e1, e2, e5, f, e4⟩
    simp only at e0 e1 e2 e5 f e4
    subst e0 e1 e2
    refine ok_cdt (by rw [ti_le, e5, ti_61]; decide) (ok_ret.mpr ⟨f, by rw [← e4]; exact ti_n5⟩)
  · exact ⟨rfl, rfl, rfl, rfl, RF.rf, hR⟩
theorem c_Mworth (hN : 1000 ≤ N) (h : CX w c tp b kd v ob ro L A) (hp : p < c) (h1 : a1.toInt = (p : Int)) : ok (f_M_shortOf_l14 N 133 a1 0 0 w) (fun r u => RF w u ∧ r.toInt = shS (fun n => cS L kd v ro A p n) (wvS (A.1 p)) 60 1) := by
  obtain ⟨hL, -, hwr, -, hp4, -, q1, -⟩ := h.2.2.1.mp hp
  have hm := lay_M hL
  obtain ⟨S, S0, S1, S6, SB⟩ := sum6 (f := fun s => A.1 p s * wo s)
  have key : ∀ s, s < 6 → 0 ≤ A.1 p s * wo s ∧ A.1 p s * wo s ≤ 99 * 50 := fun s h => mul_in (q1 s h).2 ⟨by have := wo_in (s := s); omega, (wo_in (s := s)).2⟩
  unfold f_M_shortOf_l14
  refine itr_up (fun k q => q.1 = 133 ∧ q.2.1 = a1 ∧ q.2.2.2.2 = w ∧ q.2.2.2.1.toInt = (k : Int) ∧ q.2.2.1.toInt = S k) 6 ?_ ?_ N 0 _ (by omega) ?_ (by omega)
  · rintro rec k ⟨b0, b1, a2, a3, u⟩ hk ⟨e0, e1, e2, e3, e4⟩ IH
    simp only at e0 e1 e2 e3 e4
    subst e0 e1 e2
    have B := SB (99 * 50) k (fun j hj => key j (by omega))
    have B1 := key k hk
    have q := q1 k hk
    have n2 := nat_of e3
    have g2 := ix_of (m := 6) e3 hk
    rw [n2] at g2
    have e6 := ti_6p h1 hp4 e3 (by omega)
    have n6 := nat_of e6
    have g6 := ix_of (m := 24) e6 (by omega)
    rw [n6] at g6
    clear e6
    have k9 : k < 2147483647 := by omega
    have t0 : (gI u 139 (6 * p + k) * gI u 134 k).toInt = A.1 p k * wo k := by rw [ti_mul] <;> rw [q.1, hwr k hk] <;> omega
    have t1 : (a2 + gI u 139 (6 * p + k) * gI u 134 k).toInt = S (k + 1) := by rw [S1, ti_add] <;> rw [t0, e4] <;> omega
    refine ok_cdf (by rw [ti_le, e3, ti_6]; omega) ?_
    simp only [ok_gd, ok_bd, ok_rr1, ok_nr0, ok_nr1, ok_ret, true_and, and_true, not_false_eq_true, sh_sI, sh_sR, sh_sL, gR_sI, gR_sL, gI_sR, gI_sL, sh_cI, gR_cI, hm, n2, g2, n6, g6]
    refine IH _ ?_
    exact ⟨rfl, rfl, rfl, ti_p1 e3 k9, t1⟩
  · rintro rec ⟨b0, b1, a2, a3, u⟩ ⟨e0, e1, e2, e3, e4⟩
    simp only at e0 e1 e2 e3 e4
    subst e0 e1 e2
    refine ok_cdt (by rw [ti_le, e3, ti_6]; decide) ?_
    exact c_Mshort hN h hp h1 (by rw [e4, S6]; rfl)
  · exact ⟨rfl, rfl, rfl, rfl, by rw [S0]; rfl⟩
theorem p_shortOf (hN : 1000 ≤ N) (h : Sim w) : ok (f_X_shortOf N 0 a1 w) (fun r w1 => ok (f_M_shortOf N 133 a1 w1) (fun r' w2 => r = r' ∧ Sim w2)) := by
  obtain ⟨c, tp, b, kd, v, ob, ro, L, A, hx0⟩ := h.cx
  have hx := lay_X h.1
  unfold f_X_shortOf f_X_shortOf_b0
  simp only [ok_gd, ok_bd, ok_rr1, ok_nr0, ok_nr1, ok_ret, true_and, and_true, not_false_eq_true, sh_sI, sh_sR, sh_sL, gR_sI, gR_sL, gI_sR, gI_sL, sh_cI, gR_cI, hx]
  refine ok_call hx0.xp ?_
  rintro r u ⟨rfl, hr⟩
  rcases hr with ⟨p, hp, ha, rfl⟩ | ⟨hr, rfl⟩
  · simp only [ok_gd, ok_bd, ok_rr1, ok_nr0, ok_nr1, ok_ret, true_and, and_true, not_false_eq_true, sh_sI, sh_sR, sh_sL, gR_sI, gR_sL, gI_sR, gI_sL, sh_cI, gR_cI, hx]
    refine ok_call (c_Wworth hN hx0.2.1 hp ha) ?_
    rintro r0 u0 ⟨rfl, hr0⟩
    refine (c_Xshort hN hx0 hp hr0).mono ?_
    rintro r1 u1 ⟨f1, hr1⟩
    have hx1 := hx0.rf f1
    have hm := lay_M hx1.1.1
    unfold f_M_shortOf f_M_shortOf_b0
    simp only [ok_gd, ok_bd, ok_rr1, ok_nr0, ok_nr1, ok_ret, true_and, and_true, not_false_eq_true, sh_sI, sh_sR, sh_sL, gR_sI, gR_sL, gI_sR, gI_sL, sh_cI, gR_cI, hm]
    refine ok_call hx1.mp ?_
    rintro r2 u2 ⟨rfl, hr2⟩
    refine ok_cdf (fun z => (hr2.z.mp z) (by omega)) ?_
    refine (c_Mworth hN hx1 hp ha).mono ?_
    rintro r3 u3 ⟨f3, hr3⟩
    exact ⟨ti_eq.mpr (by rw [hr1, hr3]), hx1.1.rf f3⟩
  · simp only [ok_gd, ok_bd, ok_rr1, ok_nr0, ok_nr1, ok_ret, true_and, and_true, not_false_eq_true, sh_sI, sh_sR, sh_sL, gR_sI, gR_sL, gI_sR, gI_sL, sh_cI, gR_cI]
    have hm := lay_M h.1
    unfold f_M_shortOf f_M_shortOf_b0
    simp only [ok_gd, ok_bd, ok_rr1, ok_nr0, ok_nr1, ok_ret, true_and, and_true, not_false_eq_true, sh_sI, sh_sR, sh_sL, gR_sI, gR_sL, gI_sR, gI_sL, sh_cI, gR_cI, hm]
    refine ok_call hx0.mp ?_
    rintro r2 u2 ⟨rfl, hr2⟩
    exact ok_cdt (hr2.z.mpr hr) (ok_ret.mpr ⟨rfl, h⟩)
end SHORT
