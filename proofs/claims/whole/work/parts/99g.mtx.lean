/-! ===== a town's text, read by the model: what waits is put out; a test =====  -/
section MTY
variable {N n f A cI p k : Nat} {w0 u z : gW} {t : Nat → Int} {S O P S' : List Int} {x c : Int32} {y : Int}
theorem MX.put (q : MX n w0 u f A cI S O p) (g : Fr [147] MFC u z) (hS : stk u S') (hb : A + O.length + 1 + S'.length ≤ 100 * f + p) (h11 : gI z 133 11 = gI u 133 11) (h22 : (gI z 133 22).toInt = ((S'.length : Nat) : Int)) (h23 : (gI z 133 23).toInt = ((opn S' : Nat) : Int)) (h21 : (gI z 133 21).toInt = ((A + O.length + 1 : Nat) : Int)) (hy : (gI z 147 (A + O.length)).toInt = y) (ho : ∀ j, j ≠ A + O.length → gI z 147 j = gI u 147 j) : MX n w0 z f A cI S' (O ++ [y]) p := by
  obtain ⟨⟨d1, d2, d3⟩, q2, q3, q4, q5, q6, q7, q8, q9⟩ := q
  have e : ∀ a k, a ≠ 133 → a ≠ 147 → gI z a k = gI u a k := fun a k h1 h2 => g.i ⟨by simp; omega, by simp; omega⟩
  have hl : (O ++ [y]).length = O.length + 1 := by simp
  refine ⟨⟨d1.tr (g.up (by simp) (by simp)), fun j hj => by rw [e _ _ (by decide) (by decide)]; exact d2 j hj, fun j hj => by rw [ho j (by omega)]; exact d3 j hj⟩, by rw [h11]; exact q2, h22, h23, by rw [hl]; exact h21, stk_c S' (fun k _ => e _ _ (by decide) (by decide)) hS, ?_, by rw [hl]; omega, q9⟩
  exact rgn_end (a := A) O A (rgn_c O A (fun k h1 h2 => ho k (by omega)) q7) hy
theorem c_Memits (hL : Lay u) (ha : (gI u 133 21).toInt = (k : Int)) (hk : k < 600) : ok (f_M_emits N 133 x u) (fun _ z => z = sI (sI u 147 k x) 133 21 (gI u 133 21 + 1)) := by
  have hx := lay_TX hL
  have n1 := nat_of ha
  have g1 := ix_of (m := 600) ha hk
  rw [n1] at g1
  have e21 : ∀ y : Int32, gI (sI u 147 k y) 133 21 = gI u 133 21 := fun y => gI_ne (by decide)
  have s1 : ∀ (u : gW) (a k : Nat) (y : Int32) (b : Nat), sh (sI u a k y) b = sh u b := fun _ _ _ _ _ => rfl
  unfold f_M_emits f_M_emits_b0
  simp only [ok_gd, ok_bd, ok_rr, true_and, hx]
  refine ⟨_, rfl, ?_⟩
  simp only [ok_gd, ok_bd, true_and, hx, n1, g1, not_false_eq_true, s1, e21]
  exact ok_ret.mpr rfl
theorem MX.a21 (h : M0 t n w0 f A cI) (q : MX n w0 u f A cI S O p) : A + O.length ≤ 600 ∧ (0 < S.length → A + O.length < 600) := by
  have h1 := h.2.1
  have h2 := h.2.2.2.2.1
  have h3 := q.2.2.2.2.2.2.2.1
  have h4 := q.2.2.2.2.2.2.2.2
  omega
/-- ! that wait on top are put out -/
theorem m_wholeL (h : M0 t n w0 f A cI) : ∀ (S O : List Int) (u : gW) (m : Nat), S.length < m → MX n w0 u f A cI S O p → ok (itr (fun rec (q : Nat × gW) => f_M_whole_b0 N rec q.1 q.2) m (133, u)) (fun _ z => MX n w0 z f A cI (wN S) (O ++ nN S) p) := by
  intro S
  induction S with
  | nil =>
    intro O u m hm q
    obtain ⟨m, rfl⟩ : ∃ m', m = m' + 1 := ⟨m - 1, by omega⟩
    have hx := lay_TX (q.st h).1
    rw [itr_s]
    show ok (f_M_whole_b0 N _ 133 u) _
    unfold f_M_whole_b0
    simp only [ok_gd, ok_bd, true_and, hx]
    refine ok_cdt (by rw [ti_le, q.2.2.1, ti_0]; decide) (ok_ret.mpr ?_)
    simp only [wN, nN, List.append_nil]; exact q
  | cons c S ih =>
    intro O u m hm q
    simp only [List.length_cons] at hm
    obtain ⟨m, rfl⟩ : ∃ m', m = m' + 1 := ⟨m - 1, by omega⟩
    have hst := q.st h
    have hL := hst.1
    have hx := lay_TX hL
    have h22 := q.2.2.1
    have h21 := q.2.2.2.2.1
    have h23 := q.2.2.2.1
    have hc := q.2.2.2.2.2.1
    have hb := q.2.2.2.2.2.2.2.1
    have ha := q.a21 h
    simp only [List.length_cons] at h22 hb hst ha
    have h22' : (gI u 133 22 - 1).toInt = ((S.length : Nat) : Int) := by rw [ti_sub1 (by omega), h22]; omega
    have n1 := nat_of h22'
    have g1 := ix_of (m := 101) h22' (by omega)
    rw [n1] at g1
    rw [itr_s]
    show ok (f_M_whole_b0 N _ 133 u) _
    unfold f_M_whole_b0
    simp only [ok_gd, ok_bd, true_and, hx]
    refine ok_cdf (by rw [ti_le, h22, ti_0]; omega) ?_
    simp only [ok_gd, ok_bd, ok_rr, true_and, hx]
    refine ⟨_, rfl, ?_⟩
    simp only [ok_gd, ok_bd, true_and, hx, n1, g1, not_false_eq_true]
    have t33 : (33 : Int32).toInt = 33 := rfl
    have hc0 : (gI u 148 S.length).toInt = c := hc.1
    rw [ok_cd]
    refine ⟨fun e => ?_, fun e => ?_⟩ <;> rw [ti_eq, hc0, t33] at e
    · subst e
      have o1 : opn (33 :: S) = 1 + opn S := by simp [opn]
      rw [o1] at h23
      refine ok_call (c_Memits hL h21 (ha.2 (by omega))) ?_
      rintro - z rfl
      have s1 : ∀ (u : gW) (a k : Nat) (y : Int32) (b : Nat), sh (sI u a k y) b = sh u b := fun _ _ _ _ _ => rfl
      have c22 : ∀ a b : Int32, gI (sI (sI u 147 (A + O.length) a) 133 21 b) 133 22 = gI u 133 22 := fun a b => by rw [gI_nk (by decide), gI_ne (by decide)]
      have c23 : ∀ a b d : Int32, gI (sI (sI (sI u 147 (A + O.length) a) 133 21 b) 133 22 d) 133 23 = gI u 133 23 := fun a b d => by rw [gI_nk (by decide), gI_nk (by decide), gI_ne (by decide)]
      simp only [ok_gd, ok_bd, true_and, hx, s1, c22, c23]
      have hp1 : (gI u 133 21 + 1).toInt = ((A + O.length + 1 : Nat) : Int) := ti_p1 h21 (by omega)
      have hm1 : (gI u 133 23 - 1).toInt = ((opn S : Nat) : Int) := by rw [ti_sub1 (by omega), h23]; omega
      have w1 : wN (33 :: S) = wN S := by simp [wN]
      have w2 : O ++ nN (33 :: S) = (O ++ [-33]) ++ nN S := by simp [nN]
      rw [w1, w2]
      refine ih (O ++ [-33]) _ m (by omega) (q.put (Fr_sI (Fr_sI (Fr_sI (Fr_sI Fr.rf (by simp)) (by simp)) (by simp)) (by simp)) hc.2 (by omega) ?_ ?_ ?_ ?_ ?_ (fun j hj => ?_))
      · rw [gI_nk (by decide), gI_nk (by decide), gI_nk (by decide), gI_ne (by decide)]
      · rw [gI_nk (by decide), gI_eq]; exact h22'
      · rw [gI_eq]; exact hm1
      · rw [gI_nk (by decide), gI_nk (by decide), gI_eq]; exact hp1
      · rw [gI_ne (by decide), gI_ne (by decide), gI_ne (by decide), gI_eq]; rfl
      · rw [gI_ne (by decide), gI_ne (by decide), gI_ne (by decide), gI_nk hj]
    · have w1 : wN (c :: S) = c :: S := by simp [wN, e]
      have w2 : nN (c :: S) = [] := by simp [nN, e]
      rw [w1, w2, List.append_nil]
      exact ok_ret.mpr q
theorem m_whole (hN : 1000 ≤ N) (h : M0 t n w0 f A cI) (q : MX n w0 u f A cI S O p) : ok (f_M_whole N 133 u) (fun _ z => MX n w0 z f A cI (wN S) (O ++ nN S) p) := by
  have := (q.st h).2.2.1
  have := (q.st h).2.2.2.1
  exact m_wholeL h S O u N (by omega) q
/-- where settling ends -/
def stp_ (c : Int) (S : List Int) : Prop := S = [] ∨ ∃ h S', S = h :: S' ∧ h ≠ 38 ∧ (h = 124 → c = 38)
def pnd (c : Int) (P : List Int) : Prop := ∀ x ∈ P, x = 38 ∨ (x = 124 ∧ c ≠ 38)
theorem m_settleL (h : M0 t n w0 f A cI) (hS : stp_ c.toInt S) : ∀ (P O : List Int) (u : gW) (m : Nat), P.length < m → pnd c.toInt P → MX n w0 u f A cI (P ++ S) O p → ok (itr (fun rec (q : Nat × Int32 × gW) => f_M_settle_b0 N rec q.1 q.2.1 q.2.2) m (133, c, u)) (fun _ z => MX n w0 z f A cI S (O ++ P.map (fun x => -x)) p) := by
  intro P
  have t38 : (38 : Int32).toInt = 38 := rfl
  have t124 : (124 : Int32).toInt = 124 := rfl
  have e124 : ∀ {a : Int32}, a.toInt = 124 → a ≠ 38 := fun {a} ha z => by rw [ti_eq, ha, t38] at z; omega
  induction P with
  | nil =>
    intro O u m hm _ q
    simp only [List.nil_append] at q
    obtain ⟨m, rfl⟩ : ∃ m', m = m' + 1 := ⟨m - 1, by omega⟩
    have hx := lay_TX (q.st h).1
    have h22 := q.2.2.1
    rw [itr_s]
    show ok (f_M_settle_b0 N _ 133 c u) _
    unfold f_M_settle_b0
    simp only [ok_gd, ok_bd, true_and, hx, List.map_nil, List.append_nil]
    rcases hS with rfl | ⟨hd, S', rfl, hh, hh2⟩
    · exact ok_cdt (by rw [ti_le, h22, ti_0]; decide) (ok_ret.mpr q)
    · have hst := q.st h
      simp only [List.length_cons] at h22 hst
      have h22' : (gI u 133 22 - 1).toInt = ((S'.length : Nat) : Int) := by rw [ti_sub1 (by omega), h22]; omega
      have n1 := nat_of h22'
      have g1 := ix_of (m := 101) h22' (by omega)
      rw [n1] at g1
      have hc0 : (gI u 148 S'.length).toInt = hd := q.2.2.2.2.2.1.1
      refine ok_cdf (by rw [ti_le, h22, ti_0]; omega) ?_
      simp only [ok_gd, ok_bd, ok_rr, true_and, hx]
      refine ⟨_, rfl, ?_⟩
      simp only [ok_gd, ok_bd, true_and, hx, n1, g1, not_false_eq_true]
      refine ok_cdf (by rw [ti_eq, hc0, t38]; exact hh) ?_
      simp only [ok_gd, ok_bd, true_and, hx, n1, g1, not_false_eq_true]
      rw [ok_cd]
      refine ⟨fun e => ?_, fun e => ok_ret.mpr q⟩
      rw [ti_eq, hc0, t124] at e
      exact ok_cdt (by rw [ti_eq, t38]; exact hh2 e) (ok_ret.mpr q)
  | cons y P ih =>
    intro O u m hm hP q
    simp only [List.length_cons] at hm
    obtain ⟨m, rfl⟩ : ∃ m', m = m' + 1 := ⟨m - 1, by omega⟩
    have hst := q.st h
    have hL := hst.1
    have hx := lay_TX hL
    have h22 := q.2.2.1
    have h21 := q.2.2.2.2.1
    have h23 := q.2.2.2.1
    have hb := q.2.2.2.2.2.2.2.1
    have ha := q.a21 h
    have hc : stk u (y :: (P ++ S)) := q.2.2.2.2.2.1
    have hy := hP y List.mem_cons_self
    have hP' : pnd c.toInt P := fun x hx => hP x (List.mem_cons_of_mem _ hx)
    have o1 : opn (y :: P ++ S) = opn (P ++ S) := by
      show (if y = 33 ∨ y = 40 then 1 else 0) + opn (P ++ S) = _
      rw [if_neg (by omega)]; omega
    rw [o1] at h23
    simp only [List.length_cons, List.cons_append] at h22 hb hst ha
    have h22' : (gI u 133 22 - 1).toInt = (((P ++ S).length : Nat) : Int) := by rw [ti_sub1 (by omega), h22]; omega
    have n1 := nat_of h22'
    have g1 := ix_of (m := 101) h22' (by omega)
    rw [n1] at g1
    have hc0 : (gI u 148 (P ++ S).length).toInt = y := hc.1
    -- it is put out
    have b45 : ok (f_M_settle_b45 N (itr (fun rec (q : Nat × Int32 × gW) => f_M_settle_b0 N rec q.1 q.2.1 q.2.2) m) 133 c u) (fun _ z => MX n w0 z f A cI S (O ++ List.map (fun x => -x) (y :: P)) p) := by
      have s1 : ∀ (u : gW) (a k : Nat) (y : Int32) (b : Nat), sh (sI u a k y) b = sh u b := fun _ _ _ _ _ => rfl
      have r1 : ∀ (u : gW) (a k : Nat) (y : Int32) (b j : Nat), gR (sI u a k y) b j = gR u b j := fun _ _ _ _ _ _ => rfl
      have c148 : ∀ a j, gI (sI u 133 22 a) 148 j = gI u 148 j := fun a j => gI_ne (by decide)
      have c21 : ∀ a, gI (sI u 133 22 a) 133 21 = gI u 133 21 := fun a => gI_nk (by decide)
      have F1 : Fr [] MFC u (sI u 133 22 (gI u 133 22 - 1)) := Fr_sI Fr.rf (by simp)
      unfold f_M_settle_b45
      simp only [ok_gd, ok_bd, ok_rr, true_and, hx, s1, r1]
      refine ⟨_, rfl, ?_⟩
      simp only [ok_gd, ok_bd, true_and, hx, s1, gI_eq, n1, g1, c148, not_false_eq_true]
      refine ok_call (c_Memits (F1.lay hL) (by rw [c21]; exact h21) (ha.2 (by omega))) ?_
      rintro - z rfl
      rw [c21]
      have hp1 : (gI u 133 21 + 1).toInt = ((A + O.length + 1 : Nat) : Int) := ti_p1 h21 (by omega)
      have w2 : O ++ List.map (fun x => -x) (y :: P) = (O ++ [-y]) ++ List.map (fun x => -x) P := by simp
      rw [w2]
      refine ih (O ++ [-y]) _ m (by omega) hP' (q.put (Fr_sI (Fr_sI (Fr_sI Fr.rf (by simp)) (by simp)) (by simp)) hc.2 (by omega) ?_ ?_ ?_ ?_ ?_ (fun j hj => ?_))
      · rw [gI_nk (by decide), gI_ne (by decide), gI_nk (by decide)]
      · rw [gI_nk (by decide), gI_ne (by decide), gI_eq]; exact h22'
      · rw [gI_nk (by decide), gI_ne (by decide), gI_nk (by decide)]; exact h23
      · rw [gI_eq]; exact hp1
      · rw [gI_ne (by decide), gI_eq]
        have e : -gI u 148 (P ++ S).length = 0 - gI u 148 (P ++ S).length := by simp
        rw [e, ti_sub] <;> rw [hc0, ti_0] <;> omega
      · rw [gI_ne (by decide), gI_nk hj, gI_ne (by decide)]
    rw [itr_s]
    show ok (f_M_settle_b0 N _ 133 c u) _
    unfold f_M_settle_b0
    simp only [ok_gd, ok_bd, true_and, hx]
    refine ok_cdf (by rw [ti_le, h22, ti_0]; omega) ?_
    simp only [ok_gd, ok_bd, ok_rr, true_and, hx]
    refine ⟨_, rfl, ?_⟩
    simp only [ok_gd, ok_bd, true_and, hx, n1, g1, not_false_eq_true]
    rw [ok_cd]
    refine ⟨fun e => b45, fun e => ?_⟩
    rw [ti_eq, hc0, t38] at e
    simp only [ok_gd, ok_bd, true_and, hx, n1, g1, not_false_eq_true]
    refine ok_cdt (by rw [ti_eq, hc0, t124]; omega) ?_
    exact ok_cdf (by rw [ti_eq, t38]; omega) b45
theorem m_settle (hN : 1000 ≤ N) (h : M0 t n w0 f A cI) (hS : stp_ c.toInt S) (hP : pnd c.toInt P) (q : MX n w0 u f A cI (P ++ S) O p) : ok (f_M_settle N 133 c u) (fun _ z => MX n w0 z f A cI S (O ++ P.map (fun x => -x)) p) := by
  have h1 := (q.st h).2.2.1
  have h2 := (q.st h).2.2.2.1
  simp only [List.length_append] at h1
  exact m_settleL h hS P O u N (by omega) hP q
end MTY
