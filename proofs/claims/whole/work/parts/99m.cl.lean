/-! ===== a town's text: a clause, in the class =====  -/
abbrev KF (tp : Nat) (w u : gW) : Prop := Fr [tp + 2, tp + 3, tp + 4, tp + 5, tp + 6] [(tp, 6), (tp, 8), (tp, 12)] w u
def WFx (x : Cl) : Prop := 0 ≤ x.1 ∧ x.1 ≤ 2 ∧ 0 ≤ x.2.1 ∧ x.2.1 ≤ 99 ∧ (x.1 ≠ 2 → wfs x.2.2 0 1)
def p25 (tp d : Nat) : Prop := d = tp + 2 ∨ d = tp + 3 ∨ d = tp + 4 ∨ d = tp + 5
def ClQ (t : Nat → Int) (tp n : Nat) (w : gW) (k i c : Nat) (r : Int32) (u : gW) : Prop := KF tp w u ∧ c8 tp u ∧ ∃ (b : Bool) (q : Nat) (x : Cl), clA t n i b q x ∧ (gI u tp 12).toInt = (q : Int) ∧ q ≤ n ∧
  ((b = true ∧ r = 1 ∧ (gI u tp 6).toInt = ((c + 1 : Nat) : Int) ∧ (gI u tp 8).toInt = ((k + x.2.2.length : Nat) : Int) ∧ k + x.2.2.length ≤ q ∧ KC u (tp + 2) (tp + 3) (tp + 4) (tp + 5) (tp + 6) cdz (k + x.2.2.length) c [x] ∧ (∀ d j, p25 tp d → j ≠ c → gI u d j = gI w d j) ∧ (∀ j, j < k → gI u (tp + 6) j = gI w (tp + 6) j) ∧ WFx x) ∨ (b = false ∧ r = 0))
section CCL
variable {N tp n i k c : Nat} {w u z : gW} {t : Nat → Int} {a1 : Int32}
theorem AV.kf {j : Nat} (h : AV tp w u j) : KF tp w u := h.1.up (by simp) (by simp)
theorem CF.kf (h : CF tp w u) : KF tp w u := h.up (by simp) (by simp)
theorem CT.kf (h : CT w tp t n) (f : KF tp w u) : CT u tp t n := by
  have := isT_73 h.2.1
  exact h.fr f ⟨by simp, by simp⟩ ⟨by simp, by simp⟩ ⟨by simp; omega, by simp; omega⟩
theorem hd_no {P : Nat → Int} {W j : Nat} (hj : j < 4) (hk : ∀ k, k < j → P (i + k) = byt W k) (hx : P (i + j) ≠ byt W j) : hdA P W i false (i + j) := Or.inl ⟨j, by omega, fun k hk' => by rw [hk k hk', lt5, if_pos (by omega)], by rw [lt5, if_pos hj]; exact hx, rfl, rfl⟩
theorem hd_nb {P : Nat → Int} {W : Nat} (hk : ∀ k, k < 4 → P (i + k) = byt W k) (hx : P (i + 4) ≠ 32) : hdA P W i false (i + 4) := Or.inl ⟨4, by omega, fun k hk' => by rw [hk k hk', lt5, if_pos (by omega)], by rw [lt5, if_neg (by omega)]; exact hx, rfl, rfl⟩
theorem hd_ok {P : Nat → Int} {W : Nat} (hk : ∀ k, k < 4 → P (i + k) = byt W k) (hx : P (i + 4) = 32) : hdA P W i true (i + 5) := Or.inr ⟨fun k hk' => by
  by_cases e : k < 4
  · rw [hk k e, lt5, if_pos e]
  · have e4 : k = 4 := by omega
    rw [e4, lt5, if_neg (by omega)]; exact hx, rfl, rfl⟩
set_option maxHeartbeats 2000000 in
theorem c_clause (hN : 1000 ≤ N) (h : CT w tp t n) (hp : (gI w tp 12).toInt = (i : Int)) (hi : i ≤ n) (h8 : (gI w tp 8).toInt = (k : Int)) (hk : k ≤ i) (h6 : (gI w tp 6).toInt = (c : Int)) (hc : c < 10) : ok (f_Tn_clause N tp w) (ClQ t tp n w k i c) := by
  have hn := h.2.2.2.2.1
  obtain ⟨t0, -, t2, t3, t4, t5, -, -, -, s2, s3, s4, s5, -, -⟩ := lay_T h.1 h.2.1
  have n1 := nat_of h6
  have g1 := ix_of (m := 10) h6 hc
  rw [n1] at g1
  have e104 : (104 : Int32).toInt = 104 := rfl
  have e107 : (107 : Int32).toInt = 107 := rfl
  have e32 : (32 : Int32).toInt = 32 := rfl
  have S1 : ∀ (u : gW) (a k : Nat) (y : Int32) (b : Nat), sh (sI u a k y) b = sh u b := fun _ _ _ _ _ => rfl
  have R1 : ∀ (u : gW) (a k : Nat) (y : Int32) (b j : Nat), gR (sI u a k y) b j = gR u b j := fun _ _ _ _ _ _ => rfl
  -- the end of a clause
  have b121 : ∀ (u : gW) (q : Nat) (x : Cl), KF tp w u → clA t n i true q x → (gI u tp 12).toInt = (q : Int) → q ≤ n → (gI u tp 6) = gI w tp 6 → (gI u tp 8).toInt = ((k + x.2.2.length : Nat) : Int) → k + x.2.2.length ≤ q → (gI u (tp + 2) c).toInt = x.1 → (gI u (tp + 3) c).toInt = x.2.1 → (x.1 ≠ 2 → (gI u (tp + 4) c).toInt = (k : Int) ∧ rgn u (tp + 6) cdz k x.2.2) → (∀ d j, p25 tp d → j ≠ c → gI u d j = gI w d j) → (∀ j, j < k → gI u (tp + 6) j = gI w (tp + 6) j) → WFx x → ok (f_Tn_clause_b121 N tp (gI w tp 6) u) (ClQ t tp n w k i c) := by
    intro u q x f hcl hpq hqn e6 e8 hkq x1 x2 x3 hrow hcode hwf
    have hu := h.kf f
    obtain ⟨t0, -, t2, t3, t4, t5, -, -, -, s2, s3, s4, s5, -, -⟩ := lay_T hu.1 hu.2.1
    unfold f_Tn_clause_b121
    simp only [ok_gd, ok_bd, ok_rr, true_and, t0, t5]
    refine ⟨_, rfl, ?_⟩
    have c6 : ∀ y : Int32, gI (sI u (tp + 5) c y) tp 6 = gI w tp 6 := fun y => by rw [gI_ne (by omega)]; exact e6
    simp only [ok_gd, ok_bd, true_and, t0, s5, S1, n1, g1, c6, not_false_eq_true]
    have hp1 : (gI w tp 6 + 1).toInt = ((c + 1 : Nat) : Int) := ti_p1 h6 (by omega)
    have eo : ∀ a j, a ≠ tp → a ≠ tp + 5 → gI (sI (sI u (tp + 5) c (gI u tp 8)) tp 6 (gI w tp 6 + 1)) a j = gI u a j := fun a j h1 h2 => by rw [gI_ne h1, gI_ne h2]
    have et : ∀ j, j ≠ 6 → gI (sI (sI u (tp + 5) c (gI u tp 8)) tp 6 (gI w tp 6 + 1)) tp j = gI u tp j := fun j h1 => by rw [gI_nk h1, gI_ne (by omega)]
    refine ok_ret.mpr ⟨Fr_sI (Fr_sI f (by simp)) (by simp), by unfold c8; rw [et 8 (by decide), e8]; omega, true, q, x, hcl, by rw [et 12 (by decide)]; exact hpq, hqn, Or.inl ⟨rfl, rfl, by rw [gI_eq]; exact hp1, by rw [et 8 (by decide)]; exact e8, hkq, ⟨⟨by rw [eo _ _ (by omega) (by omega)]; exact x1, by rw [eo _ _ (by omega) (by omega)]; exact x2, fun hx => ?_⟩, trivial⟩, fun d j hd hj => ?_, fun j hj => by rw [eo _ _ (by omega) (by omega)]; exact hcode j hj, hwf⟩⟩
    · refine ⟨k, by rw [eo _ _ (by omega) (by omega)]; exact (x3 hx).1, by rw [gI_ne (by omega), gI_eq]; exact e8, Nat.le_refl _, rgn_c _ _ (fun j _ _ => eo _ _ (by omega) (by omega)) (x3 hx).2⟩
    · by_cases e5 : d = tp + 5
      · rw [e5, gI_ne (by omega), gI_nk hj, ← e5]; exact hrow d j hd hj
      · rw [eo _ _ (by unfold p25 at hd; omega) e5]; exact hrow d j hd hj
  have b36 : ∀ (z0 : Int32), z0.toInt = ((wdF (PK t n i) : Nat) : Int) → ok (f_Tn_clause_b36 N tp (gI w tp 6) z0 (gI w tp 6) (tp + 2) w) (ClQ t tp n w k i c) := by
    intro z0 hz0
    have hW := wdF_in (x := PK t n i)
    have F2 : KF tp w (sI (sI w (tp + 2) c z0) (tp + 4) c (gI (sI w (tp + 2) c z0) tp 8)) := Fr_sI (Fr_sI Fr.rf (by simp)) (by simp)
    have a8 : gI (sI w (tp + 2) c z0) tp 8 = gI w tp 8 := gI_ne (by omega)
    rw [a8] at F2
    have h2 := h.kf F2
    have r0 : gI (sI (sI w (tp + 2) c z0) (tp + 4) c (gI w tp 8)) (tp + 2) c = z0 := by rw [gI_ne (by omega), gI_eq]
    unfold f_Tn_clause_b36
    simp only [ok_gd, ok_bd, ok_rr, true_and, s2, t0, t4, S1, R1, n1, g1, not_false_eq_true]
    refine ⟨_, rfl, ?_⟩
    simp only [ok_gd, ok_bd, ok_rr, true_and, s4, t0, t2, S1, R1, n1, g1, a8, not_false_eq_true]
    refine ⟨_, rfl, ?_⟩
    simp only [ok_gd, ok_bd, true_and, s2, S1, n1, g1, r0, not_false_eq_true]
    have hrow2 : ∀ d j, p25 tp d → j ≠ c → gI (sI (sI w (tp + 2) c z0) (tp + 4) c (gI w tp 8)) d j = gI w d j := fun d j _ hj => by rw [gI_nk hj, gI_nk hj]
    have hcode2 : ∀ j, gI (sI (sI w (tp + 2) c z0) (tp + 4) c (gI w tp 8)) (tp + 6) j = gI w (tp + 6) j := fun j => by rw [gI_ne (by omega), gI_ne (by omega)]
    have htp2 : ∀ j, gI (sI (sI w (tp + 2) c z0) (tp + 4) c (gI w tp 8)) tp j = gI w tp j := fun j => by rw [gI_ne (by omega), gI_ne (by omega)]
    have h42 : (gI (sI (sI w (tp + 2) c z0) (tp + 4) c (gI w tp 8)) (tp + 4) c).toInt = (k : Int) := by rw [gI_eq]; exact h8
    generalize sI (sI w (tp + 2) c z0) (tp + 4) c (gI w tp 8) = w2 at F2 h2 r0 hrow2 hcode2 htp2 h42
    refine ok_call (c_word hN hW hz0 h2 (by rw [htp2]; exact hp) hi) ?_
    rintro r3 u3 ⟨j, hj4, hjk, av3, hjn, hr3⟩
    have c83 : gI u3 tp 8 = gI w tp 8 := by rw [av3.1.c ⟨by simp, by simp⟩, htp2]
    have hc8 : ∀ u : gW, gI u tp 8 = gI w tp 8 → c8 tp u := fun u e => by unfold c8; rw [e, h8]; omega
    rcases hr3 with ⟨rfl, rfl⟩ | ⟨rfl, hj, hne⟩
    rotate_left 1
    · exact ok_cdt rfl (ok_ret.mpr ⟨F2.tr av3.kf, hc8 _ c83, false, i + j, (0, 0, []), Or.inl ⟨hd_no hj hjk hne, rfl⟩, av3.2, hjn, Or.inr ⟨rfl, rfl⟩⟩)
    refine ok_cdf (by decide) ?_
    have h3 := h2.cf av3.cf
    obtain ⟨t30, -, -, -, -, -, -, -, -, -, -, -, -, -, -⟩ := lay_T h3.1 h3.2.1
    simp only [ok_gd, true_and, t30]
    refine ok_call (c_takes (a1 := 32) h3 av3.2 hjn (by decide)) ?_
    rintro r4 u4 (⟨rfl, hpk, hin4, av4⟩ | ⟨rfl, hpk, rfl⟩) <;> rw [e32] at hpk
    rotate_left 1
    · exact ok_cdt rfl (ok_ret.mpr ⟨F2.tr av3.kf, hc8 _ c83, false, i + 4, (0, 0, []), Or.inl ⟨hd_nb hjk hpk, rfl⟩, av3.2, hjn, Or.inr ⟨rfl, rfl⟩⟩)
    refine ok_cdf (by decide) ?_
    have hhd := hd_ok hjk hpk
    have h4 := h3.cf av4.cf
    obtain ⟨t40, -, -, t43, -, -, -, -, -, -, -, -, -, -, -⟩ := lay_T h4.1 h4.2.1
    simp only [ok_gd, ok_rr, true_and, t40, t43]
    refine ⟨_, rfl, ?_⟩
    refine ok_call (c_number h4 av4.2 (by omega)) ?_
    rintro r5 u5 ⟨q5, hq5, av5, hnm⟩
    have hvi := nmA_in hnm
    have AV345 : Fr [] [(tp, 12)] w2 u5 := (av3.1.tr av4.1).tr av5.1
    have h5 := h2.cf (AV345.up (by simp) (by simp))
    have e5 : ∀ a j, a ≠ tp → gI u5 a j = gI w2 a j := fun a j ha => AV345.i ⟨by simp, by simp; omega⟩
    have e5t : ∀ j, j ≠ 12 → gI u5 tp j = gI w tp j := fun j hj => by rw [AV345.c ⟨by simp, by simp; omega⟩, htp2]
    obtain ⟨t50, -, t52, t53, -, -, -, -, -, s52, s53, -, -, -, -⟩ := lay_T h5.1 h5.2.1
    have F6 : KF tp w (sI u5 (tp + 3) c r5) := Fr_sI (F2.tr (AV345.up (by simp) (by simp))) (by simp)
    have h6' := h.kf F6
    have x46 : gI (sI u5 (tp + 3) c r5) (tp + 3) c = r5 := gI_eq
    have x51 : gI (sI u5 (tp + 3) c r5) (tp + 2) c = z0 := by rw [gI_ne (by omega), e5 _ _ (by omega)]; exact r0
    simp only [ok_gd, ok_bd, ok_rr, true_and, s53, t50, t53, S1, R1, n1, g1, not_false_eq_true]
    refine ⟨_, rfl, ?_⟩
    simp only [ok_gd, ok_bd, true_and, s53, S1, n1, g1, x46, not_false_eq_true]
    have e6t : ∀ j, j ≠ 12 → gI (sI u5 (tp + 3) c r5) tp j = gI w tp j := fun j hj => by rw [gI_ne (by omega)]; exact e5t j hj
    have p6 : (gI (sI u5 (tp + 3) c r5) tp 12).toInt = (q5 : Int) := by rw [gI_ne (by omega)]; exact av5.2
    have row6 : ∀ d j, p25 tp d → j ≠ c → gI (sI u5 (tp + 3) c r5) d j = gI w d j := fun d j hd hj => by rw [gI_nk hj, e5 _ _ (by unfold p25 at hd; omega)]; exact hrow2 d j hd hj
    have code6 : ∀ j, gI (sI u5 (tp + 3) c r5) (tp + 6) j = gI w (tp + 6) j := fun j => by rw [gI_ne (by omega), e5 _ _ (by omega)]; exact hcode2 j
    have r46 : (gI (sI u5 (tp + 3) c r5) (tp + 4) c).toInt = (k : Int) := by rw [gI_ne (by omega), e5 _ _ (by omega)]; exact h42
    generalize sI u5 (tp + 3) c r5 = w6 at F6 h6' x46 x51 e6t p6 row6 code6 r46
    rw [ok_cd]
    refine ⟨fun ge => ?_, fun ge => ?_⟩ <;> rw [ti_le, ti_0] at ge
    rotate_left 1
    · have hv : r5.toInt = -1 := by omega
      rw [hv] at hnm
      exact ok_ret.mpr ⟨F6, hc8 _ (e6t 8 (by decide)), false, q5, (0, 0, []), Or.inr ⟨_, hhd, Or.inl ⟨hnm, rfl⟩⟩, p6, hq5, Or.inr ⟨rfl, rfl⟩⟩
    obtain ⟨t60, -, t62, -, -, -, -, -, -, s62, -, -, -, -, -⟩ := lay_T h6'.1 h6'.2.1
    simp only [ok_gd, ok_bd, ok_rr, true_and, t52]
    refine ⟨_, rfl, ?_⟩
    simp only [ok_gd, ok_bd, true_and, s52, s62, n1, g1, x51, not_false_eq_true]
    rw [ok_cd]
    refine ⟨fun e2 => ?_, fun e2 => ?_⟩ <;> rw [ti_eq, hz0, ti_2] at e2
    · have e2' : wdF (PK t n i) = 2 := by omega
      refine b121 w6 q5 (2, r5.toInt, []) F6 (Or.inr ⟨_, hhd, Or.inr ⟨q5, r5.toInt, ge, hnm, Or.inl ⟨e2', rfl, rfl, rfl⟩⟩⟩) p6 hq5 (e6t 6 (by decide)) (by rw [e6t 8 (by decide)]; exact h8) ?_ (by rw [x51, hz0, e2']; rfl) (by rw [x46]) (fun z => absurd rfl z) row6 (fun j _ => code6 j) ⟨by show (0 : Int) ≤ 2; decide, by show (2 : Int) ≤ 2; decide, ge, by show r5.toInt ≤ 99; omega, fun z => absurd rfl z⟩
      show k + 0 ≤ q5; omega
    · have e2' : wdF (PK t n i) ≠ 2 := by omega
      refine ok_call (c_takes (a1 := 32) h6' p6 hq5 (by decide)) ?_
      rintro r7 u7 (⟨rfl, hpk7, hin7, av7⟩ | ⟨rfl, hpk7, rfl⟩) <;> rw [e32] at hpk7
      rotate_left 1
      · exact ok_cdt rfl (ok_ret.mpr ⟨F6, hc8 _ (e6t 8 (by decide)), false, q5, (0, 0, []), Or.inr ⟨_, hhd, Or.inr ⟨q5, r5.toInt, ge, hnm, Or.inr ⟨e2', Or.inl ⟨hpk7, rfl, rfl⟩⟩⟩⟩, p6, hq5, Or.inr ⟨rfl, rfl⟩⟩)
      refine ok_cdf (by decide) ?_
      have h7 := h6'.cf av7.cf
      have t70 := (lay_T h7.1 h7.2.1).1
      have e7 : ∀ a j, a ≠ tp → gI u7 a j = gI w6 a j := fun a j ha => av7.1.i ⟨by simp, by simp; omega⟩
      have e7t : ∀ j, j ≠ 12 → gI u7 tp j = gI w tp j := fun j hj => by rw [av7.1.c ⟨by simp, by simp; omega⟩]; exact e6t j hj
      simp only [ok_gd, true_and, t70]
      unfold f_Tn_either
      refine ok_call ((p_grp hN 20).2.2 0 u7 k (q5 + 1) 0 (by decide) ⟨h7, av7.2, by omega, by rw [e7t 8 (by decide)]; exact h8, by omega, ti_0, by decide⟩) ?_
      rintro r8 u8 ⟨f8, c88, q8, p8, n8, hr8⟩
      have F8 : KF tp w u8 := (F6.tr av7.kf).tr (CF.kf f8)
      have e8 : ∀ a j, a ≠ tp → a ≠ tp + 6 → gI u8 a j = gI w6 a j := fun a j h1 h2 => by rw [f8.i ⟨by simp; omega, by simp; omega⟩, e7 _ _ h1]
      rcases hr8 with ⟨rfl, ops, l1, l2, co, g1', g2', g3'⟩ | ⟨rfl, g⟩
      · refine ok_cdf (by decide) ?_
        refine b121 u8 q8 (((wdF (PK t n i) : Nat) : Int), r5.toInt, ops) F8 (Or.inr ⟨_, hhd, Or.inr ⟨q5, r5.toInt, ge, hnm, Or.inr ⟨e2', Or.inr ⟨hpk7, Or.inr ⟨ops, g1', g2', rfl, rfl⟩⟩⟩⟩⟩) p8 n8 (by rw [f8.c ⟨by simp, by simp⟩]; exact e7t 6 (by decide)) co.1 ?_ (by rw [e8 _ _ (by omega) (by omega), x51, hz0]) (by rw [e8 _ _ (by omega) (by omega), x46]) (fun _ => ⟨by rw [e8 _ _ (by omega) (by omega)]; exact r46, co.2.2⟩) (fun d j hd hj => ?_) (fun j hj => ?_) ⟨Int.natCast_nonneg _, ?_, ge, by show r5.toInt ≤ 99; omega, fun _ => g3' 0 (by decide)⟩
        · show k + ops.length ≤ q8; omega
        · have hd' := hd
          unfold p25 at hd'
          rw [e8 _ _ (by omega) (by omega)]; exact row6 d j hd hj
        · rw [co.2.1 j hj, e7 _ _ (by omega)]; exact code6 j
        · show ((wdF (PK t n i) : Nat) : Int) ≤ 2; omega
      · exact ok_cdt rfl (ok_ret.mpr ⟨F8, c88, false, q8, (0, 0, []), Or.inr ⟨_, hhd, Or.inr ⟨q5, r5.toInt, ge, hnm, Or.inr ⟨e2', Or.inr ⟨hpk7, Or.inl ⟨g, rfl⟩⟩⟩⟩⟩, p8, n8, Or.inr ⟨rfl, rfl⟩⟩)
  unfold f_Tn_clause f_Tn_clause_b0
  simp only [ok_gd, ok_bd, true_and, t0]
  refine ok_call (c_ahead h hp hi) ?_
  rintro r u ⟨rfl, hr⟩
  simp only [ok_gd, ok_rr, true_and, t0, t2]
  refine ⟨_, rfl, ?_⟩
  rw [ok_cd]
  refine ⟨fun e => ?_, fun e => ?_⟩ <;> rw [ti_eq, hr, e104] at e
  · exact b36 0 (by unfold wdF; rw [if_pos e]; rfl)
  rw [ok_cd]
  refine ⟨fun e1 => ?_, fun e1 => ?_⟩ <;> rw [ti_eq, hr, e107] at e1
  · exact b36 1 (by unfold wdF; rw [if_neg e, if_pos e1]; rfl)
  · exact b36 2 (by unfold wdF; rw [if_neg e, if_neg e1]; rfl)
end CCL
