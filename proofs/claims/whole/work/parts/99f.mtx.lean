/-! ===== a town's text, read by the model: bytes, what waits, what is put out =====  -/
def stk (u : gW) : List Int → Prop
  | [] => True
  | c :: S => (gI u 148 S.length).toInt = c ∧ stk u S
def opn : List Int → Nat
  | [] => 0
  | c :: S => (if c = 33 ∨ c = 40 then 1 else 0) + opn S
/-- without the leading ! -/
def wN : List Int → List Int
  | [] => []
  | c :: S => if c = 33 then wN S else c :: S
def nN : List Int → List Int
  | [] => []
  | c :: S => if c = 33 then -33 :: nN S else []
abbrev MFT : List Nat := [146, 147, 148]
abbrev MFC : List (Nat × Nat) := [(133, 11), (133, 12), (133, 21), (133, 22), (133, 23)]
/-- where the text is read: town f, its clause cI from A on -/
def M0 (t : Nat → Int) (n : Nat) (w0 : gW) (f A cI : Nat) : Prop := Lay w0 ∧ n ≤ 100 ∧ (gI w0 133 10).toInt = (n : Int) ∧ (∀ j, j < n → (gI w0 141 j).toInt = t j ∧ 0 ≤ t j ∧ t j ≤ 127) ∧ f < 6 ∧ 100 * f ≤ A ∧ cI < 60
def MD (w0 u : gW) (A cI : Nat) : Prop := Fr MFT MFC w0 u ∧ (∀ j, j ≠ cI → gI u 146 j = gI w0 146 j) ∧ ∀ j, j < A → gI u 147 j = gI w0 147 j
def MX (n : Nat) (w0 u : gW) (f A cI : Nat) (S O : List Int) (p : Nat) : Prop :=
  MD w0 u A cI ∧ (gI u 133 11).toInt = (p : Int) ∧ (gI u 133 22).toInt = ((S.length : Nat) : Int) ∧ (gI u 133 23).toInt = ((opn S : Nat) : Int) ∧ (gI u 133 21).toInt = ((A + O.length : Nat) : Int) ∧ stk u S ∧ rgn u 147 (fun z => z) A O ∧ A + O.length + S.length ≤ 100 * f + p ∧ p ≤ n
section MTX
variable {N n f A cI p k : Nat} {w0 u z : gW} {t : Nat → Int} {S O P : List Int} {x c : Int32}
set_option maxRecDepth 20000 in
theorem lay_TX (h : Lay w0) : sh w0 133 = (12, 0) ∧ gR w0 133 13 = some 141 ∧ sh w0 141 = (50, 100) ∧ gR w0 133 19 = some 147 ∧ sh w0 147 = (50, 600) ∧ gR w0 133 20 = some 148 ∧ sh w0 148 = (50, 101) ∧ gR w0 133 17 = some 145 ∧ sh w0 145 = (50, 60) ∧ gR w0 133 18 = some 146 ∧ sh w0 146 = (50, 60) := ⟨h.1 133 (by decide), h.2.1 (133, 13, 141) (by decide), h.1 141 (by decide), h.2.1 (133, 19, 147) (by decide), h.1 147 (by decide), h.2.1 (133, 20, 148) (by decide), h.1 148 (by decide), h.2.1 (133, 17, 145) (by decide), h.1 145 (by decide), h.2.1 (133, 18, 146) (by decide), h.1 146 (by decide)⟩
theorem M0.pk (h : M0 t n w0 f A cI) : -1 ≤ PK t n p ∧ PK t n p ≤ 127 := by
  by_cases e : p < n
  · rw [PK_lt e]; have := h.2.2.2.1 p e; omega
  · rw [PK_ge e]; omega
theorem PK_in (g : 0 ≤ PK t n p) : p < n := by
  rcases Nat.lt_or_ge p n with e | e
  · exact e
  · rw [PK_ge (by omega)] at g; omega
theorem stk_c : ∀ (S : List Int), (∀ k, k < S.length → gI z 148 k = gI u 148 k) → stk u S → stk z S := by
  intro S
  induction S with
  | nil => intro _ _; trivial
  | cons c S ih =>
    intro h q
    simp only [List.length_cons] at h
    exact ⟨by rw [h _ (by omega)]; exact q.1, ih (fun k hk => h k (by omega)) q.2⟩
theorem rgn_end {g : Int → Int} {pl a : Nat} {y : Int} : ∀ (O : List Int) (a : Nat), rgn u pl g a O → (gI u pl (a + O.length)).toInt = g y → rgn u pl g a (O ++ [y]) := by
  intro O
  induction O with
  | nil => intro a _ h; exact ⟨h, trivial⟩
  | cons z O ih =>
    intro a q h
    simp only [List.length_cons] at h
    exact ⟨q.1, ih (a + 1) q.2 (by rw [show a + 1 + O.length = a + (O.length + 1) by omega]; exact h)⟩
theorem rgn_app {g : Int → Int} {pl : Nat} : ∀ (O P : List Int) (a : Nat), rgn u pl g a O → rgn u pl g (a + O.length) P → rgn u pl g a (O ++ P) := by
  intro O
  induction O with
  | nil => intro P a _ h; exact h
  | cons z O ih =>
    intro P a q h
    simp only [List.length_cons] at h
    exact ⟨q.1, ih P (a + 1) q.2 (by rw [show a + 1 + O.length = a + (O.length + 1) by omega]; exact h)⟩
theorem MX.st (h : M0 t n w0 f A cI) (q : MX n w0 u f A cI S O p) : Lay u ∧ (gI u 133 10).toInt = (n : Int) ∧ O.length + S.length ≤ p ∧ p ≤ 100 ∧ ∀ j, j < n → (gI u 141 j).toInt = t j := by
  obtain ⟨h1, h2, h3, h4, h5, h6, h7⟩ := h
  have g1 := q.1.1
  have g2 := q.2.2.2.2.2.2.2.1
  have g3 := q.2.2.2.2.2.2.2.2
  exact ⟨g1.lay h1, by rw [g1.c ⟨by decide, by decide⟩]; exact h3, by omega, by omega, fun j hj => by rw [g1.i ⟨by decide, by decide⟩]; exact (h4 j hj).1⟩
theorem m_peek (h : M0 t n w0 f A cI) (q : MX n w0 u f A cI S O p) : ok (f_M_peek N 133 u) (fun r z => z = u ∧ r.toInt = PK t n p) := by
  obtain ⟨hL, h10, hOS, hp, ht⟩ := q.st h
  have hx := lay_TX hL
  have h11 := q.2.1
  unfold f_M_peek f_M_peek_b0
  simp only [ok_gd, ok_bd, true_and, hx]
  rw [ok_cd]
  refine ⟨fun e => ?_, fun e => ?_⟩ <;> rw [ti_le, h10, h11] at e
  · exact ok_ret.mpr ⟨rfl, by rw [PK_ge (by omega)]; rfl⟩
  have n1 := nat_of h11
  have g1 := ix_of (m := 100) h11 (by have := h.2.1; omega)
  rw [n1] at g1
  simp only [ok_gd, ok_bd, ok_rr, true_and, hx]
  refine ⟨_, rfl, ?_⟩
  simp only [ok_gd, ok_bd, true_and, hx, n1, g1, not_false_eq_true]
  exact ok_ret.mpr ⟨rfl, by rw [PK_lt (by omega)]; exact ht p (by omega)⟩
/-- only a cell of the model that the state does not speak of, or the place in the text -/
theorem MX.fr (q : MX n w0 u f A cI S O p) (g : Fr [] MFC u z) (h22 : gI z 133 22 = gI u 133 22) (h23 : gI z 133 23 = gI u 133 23) (h21 : gI z 133 21 = gI u 133 21) {p' : Nat} (h11 : (gI z 133 11).toInt = (p' : Int)) (hp : p ≤ p') (hn : p' ≤ n) : MX n w0 z f A cI S O p' := by
  obtain ⟨⟨d1, d2, d3⟩, q2, q3, q4, q5, q6, q7, q8, q9⟩ := q
  have e : ∀ a k, a ≠ 133 → gI z a k = gI u a k := fun a k ha => g.i ⟨by simp, by simp; omega⟩
  exact ⟨⟨d1.tr (g.up (by simp) (by simp)), fun j hj => by rw [e _ _ (by decide)]; exact d2 j hj, fun j hj => by rw [e _ _ (by decide)]; exact d3 j hj⟩, h11, by rw [h22]; exact q3, by rw [h23]; exact q4, by rw [h21]; exact q5, stk_c S (fun k _ => e _ _ (by decide)) q6, rgn_c O A (fun k _ _ => e _ _ (by decide)) q7, by omega, hn⟩
theorem m_adv (q : MX n w0 u f A cI S O p) (h : M0 t n w0 f A cI) (hp : p < n) : MX n w0 (sI u 133 11 (gI u 133 11 + 1)) f A cI S O (p + 1) := by
  have := h.2.1
  exact q.fr (Fr_sI Fr.rf (by simp)) (gI_nk (by decide)) (gI_nk (by decide)) (gI_nk (by decide)) (by rw [gI_eq]; exact ti_p1 q.2.1 (by omega)) (by omega) (by omega)
theorem m_takes (h : M0 t n w0 f A cI) (q : MX n w0 u f A cI S O p) (hc : 0 ≤ c.toInt) : ok (f_M_takes N 133 c u) (fun r z => (r = 1 ∧ PK t n p = c.toInt ∧ p < n ∧ MX n w0 z f A cI S O (p + 1)) ∨ (r = 0 ∧ PK t n p ≠ c.toInt ∧ z = u)) := by
  have hx := lay_TX (q.st h).1
  unfold f_M_takes f_M_takes_b0
  simp only [ok_gd, true_and, hx]
  refine ok_call (m_peek h q) ?_
  rintro r z ⟨rfl, hr⟩
  rw [ok_cd]
  refine ⟨fun e => ?_, fun e => ?_⟩ <;> rw [ti_eq, hr] at e
  · simp only [ok_gd, ok_bd, ok_rr1, ok_nr0, ok_nr1, ok_ret, true_and, and_true, not_false_eq_true, sh_sI, sh_sR, sh_sL, gR_sI, gR_sL, gI_sR, gI_sL, sh_cI, gR_cI, hx]
    have hin := PK_in (t := t) (n := n) (p := p) (by rw [e]; exact hc)
    exact Or.inl ⟨e, hin, m_adv q h hin⟩
  · exact ok_ret.mpr (Or.inr ⟨rfl, e, rfl⟩)
theorem m_isD (h : M0 t n w0 f A cI) (q : MX n w0 u f A cI S O p) : ok (f_M_isDigit N 133 u) (fun r z => z = u ∧ bt r (isD (PK t n p))) := by
  have hx := lay_TX (q.st h).1
  have e48 : (48 : Int32).toInt = 48 := rfl
  have e57 : (57 : Int32).toInt = 57 := rfl
  unfold f_M_isDigit f_M_isDigit_b0
  simp only [ok_gd, true_and, hx]
  refine ok_call (m_peek h q) ?_
  rintro r z ⟨rfl, hr⟩
  simp only [ok_gd, true_and, hx]
  refine ok_call c_Min ?_
  rintro r2 z2 ⟨rfl, hr2⟩
  rw [e48, e57, hr] at hr2
  exact ok_gdt hr2.g (ok_ret.mpr ⟨rfl, hr2⟩)
set_option maxHeartbeats 1000000 in
theorem m_number (hN : 1000 ≤ N) (h : M0 t n w0 f A cI) (q : MX n w0 u f A cI S O p) : ok (f_M_takesNumber N 133 u) (fun r z => ∃ (e : Nat) (v : Int), nmA (PK t n) p e v ∧ MX n w0 z f A cI S O e ∧ ((v = -1 ∧ r = 0) ∨ (0 ≤ v ∧ r = 1 ∧ (gI z 133 12).toInt = v))) := by
  have hx := lay_TX (q.st h).1
  have hn := h.2.1
  unfold f_M_takesNumber f_M_takesNumber_b0
  simp only [ok_gd, true_and, hx]
  refine ok_call (m_isD h q) ?_
  rintro r1 u1 ⟨rfl, hr1⟩
  rw [ok_cd]
  refine ⟨fun e => ?_, fun e => ?_⟩
  · exact ok_ret.mpr ⟨p, -1, Or.inl ⟨hr1.z.mp e, rfl, rfl⟩, q, Or.inl ⟨rfl, rfl⟩⟩
  have d1 := Classical.not_not.mp (fun z => e (hr1.z.mpr z))
  have d1' := d1
  unfold isD at d1'
  have hin := PK_in (t := t) (n := n) (p := p) (by omega)
  have qa : MX n w0 (sI u1 133 12 0) f A cI S O p := q.fr (Fr_sI Fr.rf (by simp)) (gI_nk (by decide)) (gI_nk (by decide)) (gI_nk (by decide)) (by rw [gI_nk (by decide)]; exact q.2.1) (Nat.le_refl _) q.2.2.2.2.2.2.2.2
  simp only [ok_gd, ok_bd, true_and, hx]
  -- one digit more
  have digit : ∀ (u : gW) (p : Nat) (v : Int) (rec : Nat × Int32 × gW → Option (Int32 × gW)) (a1 : Int32) (j : Nat) (Q : Int32 → gW → Prop), a1.toInt = (j : Int) → j < 2 → 0 ≤ v → v ≤ 9 → MX n w0 u f A cI S O p → (gI u 133 12).toInt = v → (¬ isD (PK t n p) → Q 1 u) → (isD (PK t n p) → ∀ z, MX n w0 z f A cI S O (p + 1) → (gI z 133 12).toInt = 10 * v + (PK t n p - 48) → ok (rec (133, a1 + 1, z)) Q) → ok (f_M_takesNumber_b16 N rec 133 a1 u) Q := by
    intro u p v rec a1 j Q h1 hj hv hv9 q h12 k1 k2
    have hx := lay_TX (q.st h).1
    unfold f_M_takesNumber_b16
    refine ok_cdf (by rw [ti_le, h1, ti_2]; omega) ?_
    simp only [ok_gd, true_and, hx]
    refine ok_call (m_isD h q) ?_
    rintro r u2 ⟨rfl, hr⟩
    rw [ok_cd]
    refine ⟨fun e => ok_ret.mpr (k1 (hr.z.mp e)), fun e => ?_⟩
    have d := Classical.not_not.mp (fun z => e (hr.z.mpr z))
    have d' := d
    unfold isD at d'
    have hin := PK_in (t := t) (n := n) (p := p) (by omega)
    simp only [ok_gd, ok_bd, true_and, hx]
    refine ok_call (m_peek h q) ?_
    rintro r3 u3 ⟨rfl, hr3⟩
    have e10 : (10 : Int32).toInt = 10 := rfl
    have e48 : (48 : Int32).toInt = 48 := rfl
    have v2 : (10 * gI u3 133 12).toInt = 10 * v := by rw [ti_mul] <;> rw [h12, e10]; omega
    have v3 : (10 * gI u3 133 12 + r3).toInt = 10 * v + PK t n p := by rw [ti_add] <;> rw [v2, hr3]; omega
    have v4 : (10 * gI u3 133 12 + r3 - 48).toInt = 10 * v + (PK t n p - 48) := by rw [ti_sub] <;> rw [v3, e48] <;> omega
    have qb : MX n w0 (sI u3 133 12 (10 * gI u3 133 12 + r3 - 48)) f A cI S O p := q.fr (Fr_sI Fr.rf (by simp)) (gI_nk (by decide)) (gI_nk (by decide)) (gI_nk (by decide)) (by rw [gI_nk (by decide)]; exact q.2.1) (Nat.le_refl _) q.2.2.2.2.2.2.2.2
    have hxb := lay_TX (qb.st h).1
    simp only [ok_gd, ok_bd, true_and, hx, hxb]
    exact k2 d _ (m_adv qb h hin) (by rw [gI_nk (by decide), gI_eq]; exact v4)
  obtain ⟨N1, rfl⟩ : ∃ N1, N = N1 + 3 := ⟨N - 3, by omega⟩
  unfold f_M_takesNumber_l16
  rw [itr_s]
  refine digit _ p 0 _ 0 0 _ ti_0 (by decide) (by decide) (by decide) qa (by rw [gI_eq]; rfl) (fun z => absurd d1 z) (fun _ z2 qz hz => ?_)
  rw [itr_s]
  have hv : 10 * 0 + (PK t n p - 48) = PK t n p - 48 := by omega
  rw [hv] at hz
  refine digit z2 (p + 1) (PK t n p - 48) _ (0 + 1) 1 _ rfl (by decide) (by omega) (by omega) qz hz (fun nd => ⟨p + 1, _, Or.inr (Or.inl ⟨d1, nd, rfl, rfl⟩), qz, Or.inr ⟨by omega, rfl, hz⟩⟩) (fun d2 z3 qz3 hz3 => ?_)
  rw [itr_s]
  show ok (f_M_takesNumber_b16 _ _ 133 (0 + 1 + 1) z3) _
  unfold f_M_takesNumber_b16
  have d2' := d2
  unfold isD at d2'
  refine ok_cdt (by decide) (ok_ret.mpr ⟨p + 2, _, Or.inr (Or.inr ⟨d1, d2, rfl, rfl⟩), qz3, Or.inr ⟨by omega, rfl, by rw [hz3]; omega⟩⟩)
end MTX
