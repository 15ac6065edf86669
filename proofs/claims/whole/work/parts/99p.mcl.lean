/-! ===== a town's text: words, a clause in the model =====  -/
/-- the model reads at p -/
def RD (t : Nat → Int) (n : Nat) (u : gW) (p : Nat) : Prop := Lay u ∧ n ≤ 100 ∧ (gI u 133 10).toInt = (n : Int) ∧ (∀ j, j < n → (gI u 141 j).toInt = t j ∧ 0 ≤ t j ∧ t j ≤ 127) ∧ (gI u 133 11).toInt = (p : Int) ∧ p ≤ n
abbrev AM (u z : gW) (p : Nat) : Prop := Fr [] [(133, 11)] u z ∧ (gI z 133 11).toInt = (p : Int)
section RDS
variable {N n p : Nat} {u z : gW} {t : Nat → Int} {c : Int32}
theorem RD.fr {T : List Nat} {C : List (Nat × Nat)} (h : RD t n u p) (f : Fr T C u z) (h10 : oC T C 133 10) (h141 : oP T C 141) {q : Nat} (hq : (gI z 133 11).toInt = (q : Int)) (hn : q ≤ n) : RD t n z q := ⟨f.lay h.1, h.2.1, by rw [f.c h10]; exact h.2.2.1, fun j hj => by rw [f.i h141]; exact h.2.2.2.1 j hj, hq, hn⟩
theorem RD.am {q : Nat} (h : RD t n u p) (f : AM u z q) (hn : q ≤ n) : RD t n z q := h.fr f.1 ⟨by simp, by simp⟩ ⟨by simp, by simp⟩ f.2 hn
theorem r_peek (h : RD t n u p) : ok (f_M_peek N 133 u) (fun r z => z = u ∧ r.toInt = PK t n p) := by
  obtain ⟨hL, hn, h10, ht, h11, hp⟩ := h
  have hx := lay_TX hL
  unfold f_M_peek f_M_peek_b0
  simp only [ok_gd, ok_bd, true_and, hx]
  rw [ok_cd]
  refine ⟨fun e => ?_, fun e => ?_⟩ <;> rw [ti_le, h10, h11] at e
  · exact ok_ret.mpr ⟨rfl, by rw [PK_ge (by omega)]; rfl⟩
  have n1 := nat_of h11
  have g1 := ix_of (m := 100) h11 (by omega)
  rw [n1] at g1
  simp only [ok_gd, ok_bd, ok_rr, true_and, hx]
  refine ⟨_, rfl, ?_⟩
  simp only [ok_gd, ok_bd, true_and, hx, n1, g1, not_false_eq_true]
  exact ok_ret.mpr ⟨rfl, by rw [PK_lt (by omega)]; exact (ht p (by omega)).1⟩
theorem AM_of (h : RD t n u p) : AM u (sI u 133 11 (gI u 133 11 + 1)) (p + 1) := ⟨Fr_sI Fr.rf (by simp), by rw [gI_eq]; exact ti_p1 h.2.2.2.2.1 (by have := h.2.1; have := h.2.2.2.2.2; omega)⟩
theorem r_takes (h : RD t n u p) (hc : 0 ≤ c.toInt) : ok (f_M_takes N 133 c u) (fun r z => (r = 1 ∧ PK t n p = c.toInt ∧ p < n ∧ AM u z (p + 1)) ∨ (r = 0 ∧ PK t n p ≠ c.toInt ∧ z = u)) := by
  have hx := lay_TX h.1
  unfold f_M_takes f_M_takes_b0
  simp only [ok_gd, true_and, hx]
  refine ok_call (r_peek h) ?_
  rintro r z ⟨rfl, hr⟩
  rw [ok_cd]
  refine ⟨fun e => ?_, fun e => ?_⟩ <;> rw [ti_eq, hr] at e
  · simp only [ok_gd, ok_bd, ok_rr1, ok_nr0, ok_nr1, ok_ret, true_and, and_true, not_false_eq_true, sh_sI, sh_sR, sh_sL, gR_sI, gR_sL, gI_sR, gI_sL, sh_cI, gR_cI, hx]
    exact Or.inl ⟨e, PK_in (t := t) (by rw [e]; exact hc), AM_of h⟩
  · exact ok_ret.mpr (Or.inr ⟨rfl, e, rfl⟩)
theorem r_isD (h : RD t n u p) : ok (f_M_isDigit N 133 u) (fun r z => z = u ∧ bt r (isD (PK t n p))) := by
  have hx := lay_TX h.1
  have e48 : (48 : Int32).toInt = 48 := rfl
  have e57 : (57 : Int32).toInt = 57 := rfl
  unfold f_M_isDigit f_M_isDigit_b0
  simp only [ok_gd, true_and, hx]
  refine ok_call (r_peek h) ?_
  rintro r z ⟨rfl, hr⟩
  simp only [ok_gd, true_and, hx]
  refine ok_call c_Min ?_
  rintro r2 z2 ⟨rfl, hr2⟩
  rw [e48, e57, hr] at hr2
  exact ok_gdt hr2.g (ok_ret.mpr ⟨rfl, hr2⟩)
abbrev A2 (u z : gW) (p : Nat) : Prop := Fr [] [(133, 11), (133, 12)] u z ∧ (gI z 133 11).toInt = (p : Int)
theorem RD.a2 {q : Nat} (h : RD t n u p) (f : A2 u z q) (hn : q ≤ n) : RD t n z q := h.fr f.1 ⟨by simp, by simp⟩ ⟨by simp, by simp⟩ f.2 hn
set_option maxHeartbeats 1000000 in
theorem r_number (hN : 1000 ≤ N) (h : RD t n u p) : ok (f_M_takesNumber N 133 u) (fun r z => ∃ (e : Nat) (v : Int), nmA (PK t n) p e v ∧ e ≤ n ∧ A2 u z e ∧ ((v = -1 ∧ r = 0) ∨ (0 ≤ v ∧ r = 1 ∧ (gI z 133 12).toInt = v))) := by
  have hx := lay_TX h.1
  have hn := h.2.1
  have hp0 := h.2.2.2.2.2
  have pk : ∀ i, -1 ≤ PK t n i ∧ PK t n i ≤ 127 := fun i => by
    by_cases e : i < n
    · rw [PK_lt e]; have := h.2.2.2.1 i e; omega
    · rw [PK_ge e]; omega
  unfold f_M_takesNumber f_M_takesNumber_b0
  simp only [ok_gd, true_and, hx]
  refine ok_call (r_isD h) ?_
  rintro r1 u1 ⟨rfl, hr1⟩
  rw [ok_cd]
  refine ⟨fun e => ?_, fun e => ?_⟩
  · exact ok_ret.mpr ⟨p, -1, Or.inl ⟨hr1.z.mp e, rfl, rfl⟩, hp0, ⟨Fr.rf, h.2.2.2.2.1⟩, Or.inl ⟨rfl, rfl⟩⟩
  have d1 := Classical.not_not.mp (fun z => e (hr1.z.mpr z))
  have d1' := d1
  unfold isD at d1'
  have A0 : A2 u1 (sI u1 133 12 0) p := ⟨Fr_sI Fr.rf (by simp), by rw [gI_nk (by decide)]; exact h.2.2.2.2.1⟩
  have ha := h.a2 A0 hp0
  simp only [ok_gd, ok_bd, true_and, hx]
  have digit : ∀ (u : gW) (p : Nat) (v : Int) (rec : Nat × Int32 × gW → Option (Int32 × gW)) (a1 : Int32) (j : Nat) (Q : Int32 → gW → Prop), a1.toInt = (j : Int) → j < 2 → 0 ≤ v → v ≤ 9 → RD t n u p → (gI u 133 12).toInt = v → (¬ isD (PK t n p) → Q 1 u) → (isD (PK t n p) → p < n → ∀ z, A2 u z (p + 1) → (gI z 133 12).toInt = 10 * v + (PK t n p - 48) → ok (rec (133, a1 + 1, z)) Q) → ok (f_M_takesNumber_b16 N rec 133 a1 u) Q := by
    intro u p v rec a1 j Q h1 hj hv hv9 q h12 k1 k2
    have hx := lay_TX q.1
    unfold f_M_takesNumber_b16
    refine ok_cdf (by rw [ti_le, h1, ti_2]; omega) ?_
    simp only [ok_gd, true_and, hx]
    refine ok_call (r_isD q) ?_
    rintro r u2 ⟨rfl, hr⟩
    rw [ok_cd]
    refine ⟨fun e => ok_ret.mpr (k1 (hr.z.mp e)), fun e => ?_⟩
    have d := Classical.not_not.mp (fun z => e (hr.z.mpr z))
    have d' := d
    unfold isD at d'
    have hin := PK_in (t := t) (n := n) (p := p) (by omega)
    simp only [ok_gd, ok_bd, true_and, hx]
    refine ok_call (r_peek q) ?_
    rintro r3 u3 ⟨rfl, hr3⟩
    have e10 : (10 : Int32).toInt = 10 := rfl
    have e48 : (48 : Int32).toInt = 48 := rfl
    have v2 : (10 * gI u3 133 12).toInt = 10 * v := by rw [ti_mul] <;> rw [h12, e10]; omega
    have v3 : (10 * gI u3 133 12 + r3).toInt = 10 * v + PK t n p := by rw [ti_add] <;> rw [v2, hr3]; omega
    have v4 : (10 * gI u3 133 12 + r3 - 48).toInt = 10 * v + (PK t n p - 48) := by rw [ti_sub] <;> rw [v3, e48] <;> omega
    have x11 : gI (sI u3 133 12 (10 * gI u3 133 12 + r3 - 48)) 133 11 = gI u3 133 11 := gI_nk (by decide)
    have s1 : ∀ (u : gW) (a k : Nat) (y : Int32) (b : Nat), sh (sI u a k y) b = sh u b := fun _ _ _ _ _ => rfl
    simp only [ok_gd, ok_bd, true_and, hx, s1, x11]
    exact k2 d hin _ ⟨Fr_sI (Fr_sI Fr.rf (by simp)) (by simp), by rw [gI_eq]; exact ti_p1 q.2.2.2.2.1 (by omega)⟩ (by rw [gI_nk (by decide), gI_eq]; exact v4)
  obtain ⟨N1, rfl⟩ : ∃ N1, N = N1 + 3 := ⟨N - 3, by omega⟩
  unfold f_M_takesNumber_l16
  rw [itr_s]
  refine digit _ p 0 _ 0 0 _ ti_0 (by decide) (by decide) (by decide) ha (by rw [gI_eq]; rfl) (fun z => absurd d1 z) (fun _ hin z2 qz hz => ?_)
  rw [itr_s]
  have hv : 10 * 0 + (PK t n p - 48) = PK t n p - 48 := by omega
  rw [hv] at hz
  have A02 : A2 u1 z2 (p + 1) := ⟨A0.1.tr qz.1, qz.2⟩
  refine digit z2 (p + 1) (PK t n p - 48) _ (0 + 1) 1 _ rfl (by decide) (by omega) (by omega) (ha.a2 qz (by omega)) hz (fun nd => ⟨p + 1, _, Or.inr (Or.inl ⟨d1, nd, rfl, rfl⟩), by omega, A02, Or.inr ⟨by omega, rfl, hz⟩⟩) (fun d2 hin2 z3 qz3 hz3 => ?_)
  rw [itr_s]
  show ok (f_M_takesNumber_b16 _ _ 133 (0 + 1 + 1) z3) _
  unfold f_M_takesNumber_b16
  have d2' := d2
  unfold isD at d2'
  refine ok_cdt (by decide) (ok_ret.mpr ⟨p + 2, _, Or.inr (Or.inr ⟨d1, d2, rfl, rfl⟩), by omega, ⟨A02.1.tr qz3.1, qz3.2⟩, Or.inr ⟨by omega, rfl, by rw [hz3]; omega⟩⟩)
theorem ltr_byt (h : ltr u) : ∀ W, W < 3 → ∀ j, j < 4 → (gI u 149 (4 * W + j)).toInt = byt W j := by
  obtain ⟨h0, h1, h2, h3, h4, h5, h6, h7, h8, h9, h10, h11⟩ := h
  intro W hW j hj
  rcases (by omega : W = 0 ∨ W = 1 ∨ W = 2) with rfl | rfl | rfl <;> rcases (by omega : j = 0 ∨ j = 1 ∨ j = 2 ∨ j = 3) with rfl | rfl | rfl | rfl
  · rw [h0]; rfl
  · rw [h1]; rfl
  · rw [h2]; rfl
  · rw [h3]; rfl
  · rw [h4]; rfl
  · rw [h5]; rfl
  · rw [h6]; rfl
  · rw [h7]; rfl
  · rw [h8]; rfl
  · rw [h9]; rfl
  · rw [h10]; rfl
  · rw [h11]; rfl
set_option maxHeartbeats 1000000 in
theorem r_word {W : Nat} {a1 : Int32} (hN : 1000 ≤ N) (hW : W < 3) (hlt : ltr u) (ha : a1.toInt = ((4 * W : Nat) : Int)) (h : RD t n u p) : ok (f_M_takesWord N 133 a1 4 u) (fun r z => ∃ (b : Bool) (q : Nat), hdA (PK t n) W p b q ∧ q ≤ n ∧ AM u z q ∧ (r = 0 ∨ r = 1) ∧ (b = true ↔ r = 1)) := by
  have hn := h.2.1
  have h149 : sh u 149 = (50, 12) ∧ gR u 133 24 = some 149 := ⟨h.1.1 149 (by decide), h.1.2.1 (133, 24, 149) (by decide)⟩
  have t4 : (4 : Int32).toInt = 4 := rfl
  have t32 : (32 : Int32).toInt = 32 := rfl
  unfold f_M_takesWord f_M_takesWord_b0 f_M_takesWord_l2
  refine itr_up (fun j q => q.1 = 133 ∧ q.2.1 = a1 ∧ q.2.2.1 = 4 ∧ q.2.2.2.1.toInt = (j : Int) ∧ AM u q.2.2.2.2 (p + j) ∧ p + j ≤ n ∧ ∀ k, k < j → PK t n (p + k) = byt W k) 4 ?_ ?_ N 0 _ (by omega) ?_ (by omega)
  · rintro rec j ⟨b0, b1, b2, a3, v⟩ hj ⟨e0, e1, e2, e3, am, hpj, hk⟩ IH
    simp only at e0 e1 e2 e3 am
    subst e0 e1 e2
    have hv := h.am am hpj
    have hx := lay_TX hv.1
    have x149 : sh v 149 = (50, 12) ∧ gR v 133 24 = some 149 := ⟨by rw [am.1.s]; exact h149.1, by rw [am.1.rc ⟨by simp, by simp⟩]; exact h149.2⟩
    have e9 : (b1 + a3).toInt = ((4 * W + j : Nat) : Int) := by rw [ti_add] <;> rw [ha, e3] <;> omega
    have n1 := nat_of e9
    have g1 := ix_of (m := 12) e9 (by omega)
    rw [n1] at g1
    have hb : (gI v 149 (4 * W + j)).toInt = byt W j := by rw [am.1.i ⟨by simp, by simp⟩]; exact ltr_byt hlt W hW j hj
    show ok (f_M_takesWord_b2 N rec 133 b1 4 a3 v) _
    unfold f_M_takesWord_b2
    refine ok_cdf (by rw [ti_le, e3, t4]; omega) ?_
    simp only [ok_gd, ok_rr, true_and, hx, x149]
    refine ⟨_, rfl, ?_⟩
    simp only [ok_gd, ok_bd, true_and, x149, n1, g1, not_false_eq_true]
    refine ok_call (r_takes hv (by rw [hb]; exact byt_in W hW j hj)) ?_
    rintro r4 z4 (⟨rfl, hpk, hin, am4⟩ | ⟨rfl, hpk, rfl⟩) <;> rw [hb] at hpk
    · refine ok_cdf (by decide) ?_
      rw [ok_bd]
      refine IH _ ⟨rfl, rfl, rfl, ti_p1 e3 (by omega), ⟨am.1.tr am4.1, am4.2⟩, by omega, fun k hk' => ?_⟩
      by_cases e : k = j
      · rw [e]; exact hpk
      · exact hk k (by omega)
    · exact ok_cdt rfl (ok_ret.mpr ⟨false, p + j, hd_no hj hk hpk, hpj, am, Or.inl rfl, ⟨fun z => (by cases z), fun z => absurd z (by decide)⟩⟩)
  · rintro rec ⟨b0, b1, b2, a3, v⟩ ⟨e0, e1, e2, e3, am, hpj, hk⟩
    simp only at e0 e1 e2 e3 am
    subst e0 e1 e2
    have hv := h.am am hpj
    have hx := lay_TX hv.1
    show ok (f_M_takesWord_b2 N rec 133 b1 4 a3 v) _
    unfold f_M_takesWord_b2
    refine ok_cdt (by rw [ti_le, e3, t4]; decide) ?_
    simp only [ok_gd, true_and, hx]
    refine ok_call (r_takes (c := 32) hv (by decide)) ?_
    rintro r4 z4 (⟨rfl, hpk, hin, am4⟩ | ⟨rfl, hpk, rfl⟩) <;> rw [t32] at hpk
    · exact ok_gdt (by simp) (ok_ret.mpr ⟨true, p + 5, hd_ok hk hpk, by omega, ⟨am.1.tr am4.1, am4.2⟩, Or.inr rfl, ⟨fun _ => rfl, fun _ => rfl⟩⟩)
    · exact ok_gdt (by simp) (ok_ret.mpr ⟨false, p + 4, hd_nb hk hpk, hpj, am, Or.inl rfl, ⟨fun z => (by cases z), fun z => absurd z (by decide)⟩⟩)
  · exact ⟨rfl, rfl, rfl, rfl, ⟨Fr.rf, h.2.2.2.2.1⟩, h.2.2.2.2.2, fun k hk => by omega⟩
end RDS
