/-! ===== a town's text, read by the class: bytes, numbers, tests =====  -/
def PK (t : Nat → Int) (n i : Nat) : Int := if i < n then t i else -1
def CT (w : gW) (tp : Nat) (t : Nat → Int) (n : Nat) : Prop := Lay w ∧ isT tp ∧ gR w tp 10 = some 73 ∧ (gI w tp 11).toInt = (n : Int) ∧ n ≤ 100 ∧ ∀ j, j < n → (gI w 73 j).toInt = t j ∧ 0 ≤ t j ∧ t j ≤ 127
/-- the number that stands there, where it ends -/
def isD (x : Int) : Prop := 48 ≤ x ∧ x ≤ 57
section TXT
variable {N tp n i k : Nat} {w u : gW} {t : Nat → Int} {a1 : Int32}
theorem PK_lt (h : i < n) : PK t n i = t i := if_pos h
theorem PK_ge (h : ¬ i < n) : PK t n i = -1 := if_neg h
theorem CT.pk (h : CT w tp t n) : -1 ≤ PK t n i ∧ PK t n i ≤ 127 := by
  by_cases e : i < n
  · rw [PK_lt e]; have := h.2.2.2.2.2 i e; omega
  · rw [PK_ge e]; omega
theorem CT.lt (h : CT w tp t n) (g : 0 ≤ PK t n i) : i < n := by
  rcases Nat.lt_or_ge i n with e | e
  · exact e
  · rw [PK_ge (by omega)] at g; omega
theorem CT.fr {T : List Nat} {C : List (Nat × Nat)} (f : Fr T C w u) (h1 : oC T C tp 10) (h2 : oC T C tp 11) (h3 : oP T C 73) (h : CT w tp t n) : CT u tp t n := by
  obtain ⟨a1, a2, a3, a4, a5, a6⟩ := h
  exact ⟨f.lay a1, a2, by rw [f.rc h1]; exact a3, by rw [f.c h2]; exact a4, a5, fun j hj => by rw [f.i h3]; exact a6 j hj⟩
theorem isT_73 (h : isT tp) : tp ≠ 73 ∧ tp + 1 ≠ 73 ∧ tp + 2 ≠ 73 ∧ tp + 3 ≠ 73 ∧ tp + 4 ≠ 73 ∧ tp + 5 ≠ 73 ∧ tp + 6 ≠ 73 ∧ tp + 7 ≠ 73 := by
  rcases h with rfl | ⟨j, hj, rfl⟩ <;> omega
/-- what reading changes -/
abbrev CF (tp : Nat) (w u : gW) : Prop := Fr [tp + 6] [(tp, 8), (tp, 12)] w u
theorem CT.cf (h : CT w tp t n) (f : CF tp w u) : CT u tp t n := by
  have := isT_73 h.2.1
  exact h.fr f ⟨by simp, by simp⟩ ⟨by simp, by simp⟩ ⟨by simp; omega, by simp; omega⟩
/-- one byte further -/
abbrev AV (tp : Nat) (w u : gW) (j : Nat) : Prop := Fr [] [(tp, 12)] w u ∧ (gI u tp 12).toInt = (j : Int)
theorem AV.cf {j : Nat} (h : AV tp w u j) : CF tp w u := h.1.up (by simp) (by simp)
theorem AV_of (hp : (gI w tp 12).toInt = (i : Int)) (h : i < 1000) : AV tp w (sI w tp 12 (gI w tp 12 + 1)) (i + 1) := ⟨Fr_sI Fr.rf (by simp), by rw [gI_eq]; exact ti_p1 hp (by omega)⟩
set_option maxRecDepth 20000 in
theorem lay_73 (h : Lay w) : sh w 73 = (51, 100) := h.1 73 (by decide)
theorem c_ahead (h : CT w tp t n) (hp : (gI w tp 12).toInt = (i : Int)) (hi : i ≤ n) : ok (f_Tn_ahead N tp w) (fun r u => u = w ∧ r.toInt = PK t n i) := by
  obtain ⟨hL, hT, h10, h11, hn, ht⟩ := h
  have t0 := (lay_T hL hT).1
  have t73 := lay_73 hL
  unfold f_Tn_ahead f_Tn_ahead_b0
  simp only [ok_gd, ok_bd, h10, ok_nr1, true_and, t0]
  rw [ok_cd]
  refine ⟨fun e => ?_, fun e => ?_⟩ <;> rw [ti_le, h11, hp] at e
  · exact ok_ret.mpr ⟨rfl, by rw [PK_ge (by omega)]; rfl⟩
  have hi' : i < n := by omega
  have n1 := nat_of hp
  have g1 := ix_of (m := 100) hp (by omega)
  rw [n1] at g1
  simp only [ok_gd, ok_bd, true_and, t73]
  refine ok_cdf (by rw [ti_le, hp]; show ¬ (100 : Int) ≤ _; omega) ?_
  simp only [ok_gd, ok_bd, true_and, t73, n1, g1, not_false_eq_true]
  exact ok_ret.mpr ⟨rfl, by rw [PK_lt hi']; exact (ht i hi').1⟩
theorem c_takes (h : CT w tp t n) (hp : (gI w tp 12).toInt = (i : Int)) (hi : i ≤ n) (ha : 0 ≤ a1.toInt) : ok (f_Tn_takes N tp a1 w) (fun r u => (r = 1 ∧ PK t n i = a1.toInt ∧ i < n ∧ AV tp w u (i + 1)) ∨ (r = 0 ∧ PK t n i ≠ a1.toInt ∧ u = w)) := by
  have h0 := h
  obtain ⟨hL, hT, -, -, hn, -⟩ := h
  have t0 := (lay_T hL hT).1
  unfold f_Tn_takes f_Tn_takes_b0
  simp only [ok_gd, true_and, t0]
  refine ok_call (c_ahead h0 hp hi) ?_
  rintro r u ⟨rfl, hr⟩
  rw [ok_cd]
  refine ⟨fun e => ?_, fun e => ?_⟩ <;> rw [ti_eq, hr] at e
  · simp only [ok_gd, ok_bd, ok_rr1, ok_nr0, ok_nr1, ok_ret, true_and, and_true, not_false_eq_true, sh_sI, sh_sR, sh_sL, gR_sI, gR_sL, gI_sR, gI_sL, sh_cI, gR_cI, t0]
    have hin := h0.lt (i := i) (by rw [e]; exact ha)
    exact Or.inl ⟨e, hin, AV_of hp (by omega)⟩
  · exact ok_ret.mpr (Or.inr ⟨rfl, e, rfl⟩)
theorem c_isD (h : CT w tp t n) (hp : (gI w tp 12).toInt = (i : Int)) (hi : i ≤ n) : ok (f_Tn_isDigitAhead N tp w) (fun r u => u = w ∧ bt r (isD (PK t n i))) := by
  have t0 := (lay_T h.1 h.2.1).1
  unfold f_Tn_isDigitAhead f_Tn_isDigitAhead_b0 isD
  simp only [ok_gd, true_and, t0]
  refine ok_call (c_ahead h hp hi) ?_
  rintro r u ⟨rfl, hr⟩
  have e48 : (48 : Int32).toInt = 48 := rfl
  have e57 : (57 : Int32).toInt = 57 := rfl
  rw [ok_cd]
  refine ⟨fun e => ?_, fun e => ?_⟩ <;> rw [ti_lt, hr, e48] at e
  · exact ok_ret.mpr ⟨rfl, Or.inr ⟨ti_0, by omega⟩⟩
  simp only [ok_gd, true_and, t0]
  refine ok_call (c_ahead h hp hi) ?_
  rintro r2 u2 ⟨rfl, hr2⟩
  rw [ok_cd]
  refine ⟨fun e => ?_, fun e => ?_⟩ <;> rw [ti_lt, hr2, e57] at e
  · exact ok_ret.mpr ⟨rfl, Or.inr ⟨ti_0, by omega⟩⟩
  · exact ok_ret.mpr ⟨rfl, Or.inl ⟨ti_1, by omega⟩⟩
/-- the number at i: nothing, one digit, two -/
def nmA (P : Nat → Int) (i q : Nat) (v : Int) : Prop := (¬ isD (P i) ∧ q = i ∧ v = -1) ∨ (isD (P i) ∧ ¬ isD (P (i + 1)) ∧ q = i + 1 ∧ v = P i - 48) ∨ (isD (P i) ∧ isD (P (i + 1)) ∧ q = i + 2 ∧ v = (P i - 48) * 10 + (P (i + 1) - 48))
theorem c_number (h : CT w tp t n) (hp : (gI w tp 12).toInt = (i : Int)) (hi : i ≤ n) : ok (f_Tn_number N tp w) (fun r u => ∃ q : Nat, q ≤ n ∧ AV tp w u q ∧ nmA (PK t n) i q r.toInt) := by
  have h0 := h
  have t0 := (lay_T h.1 h.2.1).1
  have hn := h.2.2.2.2.1
  have e48 : (48 : Int32).toInt = 48 := rfl
  have e10 : (10 : Int32).toInt = 10 := rfl
  unfold f_Tn_number f_Tn_number_b0
  simp only [ok_gd, true_and, t0]
  refine ok_call (c_isD h hp hi) ?_
  rintro r u ⟨rfl, hr⟩
  rw [ok_cd]
  refine ⟨fun e => ?_, fun e => ?_⟩
  · exact ok_ret.mpr ⟨i, hi, ⟨Fr.rf, hp⟩, Or.inl ⟨hr.z.mp e, rfl, rfl⟩⟩
  have d1 := Classical.not_not.mp (fun z => e (hr.z.mpr z))
  have d1' := d1
  unfold isD at d1'
  have hin := h0.lt (i := i) (by omega)
  simp only [ok_gd, true_and, t0]
  refine ok_call (c_ahead h hp hi) ?_
  rintro r2 u2 ⟨rfl, hr2⟩
  have hav := AV_of hp (show i < 1000 by omega)
  have h1 := h0.cf hav.cf
  have t1 := (lay_T h1.1 h1.2.1).1
  simp only [ok_gd, ok_bd, true_and, t0, t1]
  refine ok_call (c_isD h1 hav.2 (by omega)) ?_
  rintro r3 u3 ⟨rfl, hr3⟩
  have v1 : (r2 - 48).toInt = PK t n i - 48 := by rw [ti_sub] <;> rw [hr2, e48]; omega
  rw [ok_cd]
  refine ⟨fun e3 => ?_, fun e3 => ?_⟩
  · exact ok_ret.mpr ⟨i + 1, by omega, hav, Or.inr (Or.inl ⟨d1, hr3.z.mp e3, rfl, v1⟩)⟩
  have d2 := Classical.not_not.mp (fun z => e3 (hr3.z.mpr z))
  have d2' := d2
  unfold isD at d2'
  have hin2 := h0.lt (i := i + 1) (by omega)
  simp only [ok_gd, ok_bd, true_and, t1]
  refine ok_call (c_ahead h1 hav.2 (by omega)) ?_
  rintro r4 u4 ⟨rfl, hr4⟩
  have hav2 := AV_of hav.2 (show i + 1 < 1000 by omega)
  have v2 : ((r2 - 48) * 10).toInt = (PK t n i - 48) * 10 := by rw [ti_mul] <;> rw [v1, e10]; omega
  have v3 : ((r2 - 48) * 10 + r4).toInt = (PK t n i - 48) * 10 + PK t n (i + 1) := by rw [ti_add] <;> rw [v2, hr4]; omega
  have v4 : ((r2 - 48) * 10 + r4 - 48).toInt = (PK t n i - 48) * 10 + (PK t n (i + 1) - 48) := by rw [ti_sub] <;> rw [v3, e48] <;> omega
  simp only [ok_gd, ok_bd, ok_rr1, ok_nr0, ok_nr1, ok_ret, true_and, and_true, not_false_eq_true, sh_sI, sh_sR, sh_sL, gR_sI, gR_sL, gI_sR, gI_sL, sh_cI, gR_cI, t1]
  exact ⟨i + 2, by omega, ⟨hav.1.tr hav2.1, hav2.2⟩, Or.inr (Or.inr ⟨d1, d2, rfl, v4⟩)⟩
end TXT
