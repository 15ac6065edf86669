/-! ===== a town's text: the model's E, step by step =====  -/
abbrev LEf (N : Nat) : (Nat × Int32 × Int32 × gW → Option (Int32 × gW)) → Nat × Int32 × Int32 × gW → Option (Int32 × gW) := fun rec q => f_M_takesE_b22 N rec q.1 q.2.1 q.2.2.1 q.2.2.2
abbrev runE (N m : Nat) (a1 a2 : Int32) (u : gW) : Option (Int32 × gW) := itr (LEf N) m (133, a1, a2, u)
section SEM
variable {N n f A cI p k i d m : Nat} {w0 u z : gW} {t : Nat → Int} {S O P S' : List Int} {x a1 a2 : Int32} {c : Int} {Q : Int32 → gW → Prop} {rec : Nat × Int32 × Int32 × gW → Option (Int32 × gW)}
theorem MX.push (q : MX n w0 u f A cI S O p) (g : Fr [148] MFC u z) (h11 : (gI z 133 11).toInt = ((p + 1 : Nat) : Int)) (h22 : (gI z 133 22).toInt = ((S.length + 1 : Nat) : Int)) (h23 : (gI z 133 23).toInt = ((opn (c :: S) : Nat) : Int)) (h21 : gI z 133 21 = gI u 133 21) (h148 : (gI z 148 S.length).toInt = c) (ho : ∀ j, j ≠ S.length → gI z 148 j = gI u 148 j) (hp : p < n) : MX n w0 z f A cI (c :: S) O (p + 1) := by
  obtain ⟨⟨d1, d2, d3⟩, q2, q3, q4, q5, q6, q7, q8, q9⟩ := q
  have e : ∀ a k, a ≠ 133 → a ≠ 148 → gI z a k = gI u a k := fun a k h1 h2 => g.i ⟨by simp; omega, by simp; omega⟩
  exact ⟨⟨d1.tr (g.up (by simp) (by simp)), fun j hj => by rw [e _ _ (by decide) (by decide)]; exact d2 j hj, fun j hj => by rw [e _ _ (by decide) (by decide)]; exact d3 j hj⟩, h11, h22, h23, by rw [h21]; exact q5, ⟨h148, stk_c S (fun k hk => ho k (by omega)) q6⟩, rgn_c O A (fun k _ _ => e _ _ (by decide) (by decide)) q7, by simp only [List.length_cons]; omega, by omega⟩
theorem m_b43 (h : M0 t n w0 f A cI) (q : MX n w0 u f A cI S O p) (hx : x.toInt = c) (hc : c = 33 ∨ c = 40) (hp : p < n) (ho : opn S < 4) (k1 : ∀ z, MX n w0 z f A cI (c :: S) O (p + 1) → ok (rec (133, a1, a2, z)) Q) : ok (f_M_takesE_b43 N rec 133 a1 a2 x u) Q := by
  have hst := q.st h
  have hl := lay_TX hst.1
  have h22 := q.2.2.1
  have h23 := q.2.2.2.1
  have t4 : (4 : Int32).toInt = 4 := rfl
  have n1 := nat_of h22
  have g1 := ix_of (m := 101) h22 (by omega)
  rw [n1] at g1
  have s1 : ∀ (u : gW) (a k : Nat) (y : Int32) (b : Nat), sh (sI u a k y) b = sh u b := fun _ _ _ _ _ => rfl
  have r1 : ∀ (u : gW) (a k : Nat) (y : Int32) (b j : Nat), gR (sI u a k y) b j = gR u b j := fun _ _ _ _ _ _ => rfl
  have c22 : ∀ a, gI (sI u 133 23 a) 133 22 = gI u 133 22 := fun a => gI_nk (by decide)
  have c22' : ∀ a b, gI (sI (sI u 133 23 a) 148 S.length b) 133 22 = gI u 133 22 := fun a b => by rw [gI_ne (by decide), gI_nk (by decide)]
  have c11 : ∀ a b d, gI (sI (sI (sI u 133 23 a) 148 S.length b) 133 22 d) 133 11 = gI u 133 11 := fun a b d => by rw [gI_nk (by decide), gI_ne (by decide), gI_nk (by decide)]
  unfold f_M_takesE_b43
  simp only [ok_gd, ok_bd, true_and, hl]
  refine ok_cdf (by rw [ti_eq, h23, t4]; omega) ?_
  simp only [ok_gd, ok_bd, ok_rr, true_and, hl, s1, r1]
  refine ⟨_, rfl, ?_⟩
  simp only [ok_gd, ok_bd, true_and, hl, s1, c22, c22', c11, n1, g1, not_false_eq_true]
  have o1 : opn (c :: S) = 1 + opn S := by
    show (if c = 33 ∨ c = 40 then 1 else 0) + opn S = _
    rw [if_pos hc]
  refine k1 _ (q.push (c := c) (Fr_sI (Fr_sI (Fr_sI (Fr_sI Fr.rf (by simp)) (by simp)) (by simp)) (by simp)) ?_ ?_ ?_ ?_ ?_ (fun j hj => ?_) hp)
  · rw [gI_eq]; exact ti_p1 q.2.1 (by have := h.2.1; omega)
  · rw [gI_nk (by decide), gI_eq]; exact ti_p1 h22 (by omega)
  · rw [gI_nk (by decide), gI_nk (by decide), gI_ne (by decide), gI_eq, o1, ti_p1 h23 (by omega)]; omega
  · rw [gI_nk (by decide), gI_nk (by decide), gI_ne (by decide), gI_nk (by decide)]
  · rw [gI_ne (by decide), gI_ne (by decide), gI_eq]; exact hx
  · rw [gI_ne (by decide), gI_ne (by decide), gI_nk hj, gI_ne (by decide)]
theorem m_b122 (hN : 1000 ≤ N) (h : M0 t n w0 f A cI) (q : MX n w0 u f A cI (P ++ S) O p) (hx : x.toInt = c) (hc : c = 38 ∨ c = 124) (hp : p < n) (hS : stp_ c S) (hP : pnd c P) (k1 : ∀ z, MX n w0 z f A cI (c :: S) (O ++ P.map (fun x => -x)) (p + 1) → ok (rec (133, a1, 1, z)) Q) : ok (f_M_takesE_b122 N rec 133 a1 x u) Q := by
  have hl := lay_TX (q.st h).1
  unfold f_M_takesE_b122
  simp only [ok_gd, true_and, hl]
  refine ok_call (m_settle (c := x) hN h (by rw [hx]; exact hS) (by rw [hx]; exact hP) q) ?_
  rintro - u q
  have hst := q.st h
  have hl := lay_TX hst.1
  have h22 := q.2.2.1
  have h23 := q.2.2.2.1
  have n1 := nat_of h22
  have g1 := ix_of (m := 101) h22 (by omega)
  rw [n1] at g1
  have s1 : ∀ (u : gW) (a k : Nat) (y : Int32) (b : Nat), sh (sI u a k y) b = sh u b := fun _ _ _ _ _ => rfl
  have c22 : ∀ b, gI (sI u 148 S.length b) 133 22 = gI u 133 22 := fun b => gI_ne (by decide)
  have c11 : ∀ b d, gI (sI (sI u 148 S.length b) 133 22 d) 133 11 = gI u 133 11 := fun b d => by rw [gI_nk (by decide), gI_ne (by decide)]
  simp only [ok_gd, ok_bd, ok_rr, true_and, hl]
  refine ⟨_, rfl, ?_⟩
  simp only [ok_gd, ok_bd, true_and, hl, s1, c22, c11, n1, g1, not_false_eq_true]
  have o1 : opn (c :: S) = opn S := by
    show (if c = 33 ∨ c = 40 then 1 else 0) + opn S = _
    rw [if_neg (by omega)]; omega
  refine k1 _ (q.push (c := c) (Fr_sI (Fr_sI (Fr_sI Fr.rf (by simp)) (by simp)) (by simp)) ?_ ?_ ?_ ?_ ?_ (fun j hj => ?_) hp)
  · rw [gI_eq]; exact ti_p1 q.2.1 (by have := h.2.1; omega)
  · rw [gI_nk (by decide), gI_eq]; exact ti_p1 h22 (by omega)
  · rw [gI_nk (by decide), gI_nk (by decide), gI_ne (by decide), o1]; exact h23
  · rw [gI_nk (by decide), gI_nk (by decide), gI_ne (by decide)]
  · rw [gI_ne (by decide), gI_ne (by decide), gI_eq]; exact hx
  · rw [gI_ne (by decide), gI_ne (by decide), gI_nk hj]
/-- the end of an E -/
theorem m_b22end (hN : 1000 ≤ N) (h : M0 t n w0 f A cI) (h1 : a1.toInt = (cI : Int)) (q : MX n w0 u f A cI (P ++ S) O p) (hS : stp_ 124 S) (hP : pnd 124 P) (hk : PK t n p ≠ 38 ∧ PK t n p ≠ 124)
    (k0 : S = [] → ∀ z, MX n w0 z f A cI [] (O ++ P.map (fun x => -x)) p → (gI z 146 cI).toInt = ((A + (O ++ P.map (fun x => -x)).length : Nat) : Int) → Q 1 z)
    (k1 : ∀ S', S = 40 :: S' → PK t n p = 41 → ∀ z, MX n w0 z f A cI (wN S') (O ++ P.map (fun x => -x) ++ nN S') (p + 1) → ok (rec (133, a1, 0, z)) Q)
    (k2 : S ≠ [] → PK t n p ≠ 41 → ∀ z, MD w0 z A cI → (gI z 133 11).toInt = (p : Int) → Q 0 z) (hS2 : S = [] ∨ ∃ S', S = 40 :: S') : ok (f_M_takesE_b22 N rec 133 a1 0 u) Q := by
  have hl := lay_TX (q.st h).1
  have t38 : (38 : Int32).toInt = 38 := rfl
  have t124 : (124 : Int32).toInt = 124 := rfl
  have t41 : (41 : Int32).toInt = 41 := rfl
  unfold f_M_takesE_b22
  simp only [ok_gd, true_and, hl]
  refine ok_call (m_peek h q) ?_
  rintro r1 u1 ⟨rfl, hr1⟩
  refine ok_cdt trivial (ok_cdf (by rw [ti_eq, hr1, t38]; exact hk.1) (ok_cdf (by rw [ti_eq, hr1, t124]; exact hk.2) ?_))
  simp only [ok_gd, true_and, hl]
  refine ok_call (m_settle (c := 124) hN h hS hP q) ?_
  rintro - u q
  have hst := q.st h
  have hl := lay_TX hst.1
  have h22 := q.2.2.1
  have h21 := q.2.2.2.2.1
  have n1 := nat_of h1
  have g1 := ix_of (m := 60) h1 h.2.2.2.2.2.2
  rw [n1] at g1
  have s1 : ∀ (u : gW) (a k : Nat) (y : Int32) (b : Nat), sh (sI u a k y) b = sh u b := fun _ _ _ _ _ => rfl
  simp only [ok_gd, ok_bd, ok_rr, true_and, hl]
  refine ⟨_, rfl, ?_⟩
  have c22 : gI (sI u 146 cI (gI u 133 21)) 133 22 = gI u 133 22 := gI_ne (by decide)
  simp only [ok_gd, ok_bd, true_and, hl, s1, n1, g1, c22, not_false_eq_true]
  have q2 : MX n w0 (sI u 146 cI (gI u 133 21)) f A cI S (O ++ P.map (fun x => -x)) p := by
    obtain ⟨⟨d1, d2, d3⟩, q2, q3, q4, q5, q6, q7, q8, q9⟩ := q
    exact ⟨⟨Fr_sI d1 (by simp), fun j hj => by rw [gI_nk hj]; exact d2 j hj, fun j hj => by rw [gI_ne (by decide)]; exact d3 j hj⟩, by rw [gI_ne (by decide)]; exact q2, by rw [gI_ne (by decide)]; exact q3, by rw [gI_ne (by decide)]; exact q4, by rw [gI_ne (by decide)]; exact q5, stk_c S (fun k _ => gI_ne (by decide)) q6, rgn_c _ A (fun k _ _ => gI_ne (by decide)) q7, q8, q9⟩
  have e146 : (gI (sI u 146 cI (gI u 133 21)) 146 cI).toInt = ((A + (O ++ P.map (fun x => -x)).length : Nat) : Int) := by rw [gI_eq]; exact h21
  generalize sI u 146 cI (gI u 133 21) = v at q2 e146 c22
  rw [ok_cd]
  refine ⟨fun e => ?_, fun e => ?_⟩ <;> rw [ti_eq, h22, ti_0] at e
  · have hS0 : S = [] := List.length_eq_zero_iff.mp (by omega)
    subst hS0
    exact ok_ret.mpr (k0 rfl _ q2 e146)
  rcases hS2 with rfl | ⟨S', rfl⟩
  · exact absurd rfl e
  rw [ok_cd]
  refine ⟨fun e41 => ?_, fun e41 => ?_⟩ <;> rw [ti_eq, hr1, t41] at e41
  · have hpn := PK_in (t := t) (n := n) (p := p) (by omega)
    have hn := h.2.1
    simp only [List.length_cons] at h22
    have h22v : (gI v 133 22).toInt = ((S'.length + 1 : Nat) : Int) := by rw [c22]; exact h22
    have h23v := q2.2.2.2.1
    have o1 : opn (40 :: S') = 1 + opn S' := by simp [opn]
    rw [o1] at h23v
    have m22 : (gI u 133 22 - 1).toInt = ((S'.length : Nat) : Int) := by rw [ti_sub1 (by omega), h22]; omega
    have m23 : (gI v 133 23 - 1).toInt = ((opn S' : Nat) : Int) := by rw [ti_sub1 (by omega), h23v]; omega
    have x23 : ∀ a, gI (sI v 133 22 a) 133 23 = gI v 133 23 := fun a => gI_nk (by decide)
    have x11 : ∀ a b, gI (sI (sI v 133 22 a) 133 23 b) 133 11 = gI v 133 11 := fun a b => by rw [gI_nk (by decide), gI_nk (by decide)]
    have hlv := lay_TX (q2.st h).1
    have q3 : MX n w0 (sI (sI (sI v 133 22 (gI u 133 22 - 1)) 133 23 (gI v 133 23 - 1)) 133 11 (gI v 133 11 + 1)) f A cI S' (O ++ P.map (fun x => -x)) (p + 1) := by
      obtain ⟨⟨d1, d2, d3⟩, q2, q3, q4, q5, q6, q7, q8, q9⟩ := q2
      refine ⟨⟨Fr_sI (Fr_sI (Fr_sI d1 (by simp)) (by simp)) (by simp), fun j hj => by rw [gI_ne (by decide), gI_ne (by decide), gI_ne (by decide)]; exact d2 j hj, fun j hj => by rw [gI_ne (by decide), gI_ne (by decide), gI_ne (by decide)]; exact d3 j hj⟩, ?_, ?_, ?_, ?_, stk_c S' (fun k _ => by rw [gI_ne (by decide), gI_ne (by decide), gI_ne (by decide)]) q6.2, rgn_c _ A (fun k _ _ => by rw [gI_ne (by decide), gI_ne (by decide), gI_ne (by decide)]) q7, ?_, by omega⟩
      · rw [gI_eq]; exact ti_p1 q2 (by omega)
      · rw [gI_nk (by decide), gI_nk (by decide), gI_eq]; exact m22
      · rw [gI_nk (by decide), gI_eq]; exact m23
      · rw [gI_nk (by decide), gI_nk (by decide), gI_nk (by decide)]; exact q5
      · simp only [List.length_cons] at q8; omega
    have hl3 := lay_TX (q3.st h).1
    rw [← c22] at q3 hl3
    simp only [ok_gd, ok_bd, true_and, hlv, s1, c22, x23, x11]
    rw [c22] at q3 hl3
    refine ok_call (m_whole hN h q3) ?_
    rintro - z qz
    exact k1 S' rfl e41 z qz
  · exact ok_ret.mpr (k2 (by simp) e41 v q2.1 q2.2.1)
end SEM
