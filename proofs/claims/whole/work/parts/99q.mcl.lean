/-! ===== a town's text: a clause in the model =====  -/
abbrev MKC : List (Nat × Nat) := [(133, 11), (133, 12), (133, 21), (133, 22), (133, 23)]
abbrev MKT : List Nat := [143, 144, 145, 146, 147, 148]
def MCl (u z : gW) (A cI q : Nat) : Prop := Fr MKT MKC u z ∧ (gI z 133 11).toInt = (q : Int) ∧ (∀ d j, 143 ≤ d → d ≤ 146 → j ≠ cI → gI z d j = gI u d j) ∧ ∀ j, j < A → gI z 147 j = gI u 147 j
section MCS
variable {N n p q f A cI : Nat} {u z v : gW} {t : Nat → Int} {a1 : Int32} {b : Bool} {x : Cl}
theorem MCl.tr {q' : Nat} (h : MCl u z A cI q) (g : MCl z v A cI q') : MCl u v A cI q' := ⟨h.1.tr g.1, g.2.1, fun d j h1 h2 h3 => by rw [g.2.2.1 d j h1 h2 h3]; exact h.2.2.1 d j h1 h2 h3, fun j hj => by rw [g.2.2.2 j hj]; exact h.2.2.2 j hj⟩
theorem MCl.lt {A' : Nat} (h : MCl u z A' cI q) (g : A ≤ A') : MCl u z A cI q := ⟨h.1, h.2.1, h.2.2.1, fun j hj => h.2.2.2 j (by omega)⟩
theorem AM.mcl (h : AM u z q) : MCl u z A cI q := ⟨h.1.up (by simp) (by simp), h.2, fun d j h1 h2 _ => h.1.i ⟨by simp, by simp; omega⟩, fun j _ => h.1.i ⟨by simp, by simp⟩⟩
theorem A2.mcl (h : A2 u z q) : MCl u z A cI q := ⟨h.1.up (by simp) (by simp), h.2, fun d j h1 h2 _ => h.1.i ⟨by simp, by simp; omega⟩, fun j _ => h.1.i ⟨by simp, by simp⟩⟩
theorem RD.mcl (h : RD t n u p) (g : MCl u z A cI q) (hq : q ≤ n) : RD t n z q := h.fr g.1 ⟨by simp, by simp⟩ ⟨by simp, by simp⟩ g.2.1 hq
/-- a row's entry is set -/
theorem row_mcl {d : Nat} {y : Int32} (hd : 143 ≤ d ∧ d ≤ 146) (hq : (gI u 133 11).toInt = (q : Int)) : MCl u (sI u d cI y) A cI q := by
  refine ⟨Fr_sI Fr.rf (by simp; omega), by rw [gI_ne (by omega)]; exact hq, fun e j h1 h2 h3 => ?_, fun j hj => gI_ne (by omega)⟩
  rw [gI_sI, if_neg (fun z => h3 z.2)]
theorem r_head (hN : 1000 ≤ N) (hlt : ltr u) (h : RD t n u p) (h1 : a1.toInt = (cI : Int)) (hc : cI < 60) : ok (f_M_takesHead N 133 a1 u) (fun r z => ∃ (b : Bool) (q : Nat), hdA (PK t n) (wdF (PK t n p)) p b q ∧ q ≤ n ∧ MCl u z A cI q ∧ Fr [143] [(133, 11)] u z ∧ (r = 0 ∨ r = 1) ∧ (b = true ↔ r = 1) ∧ (gI z 143 cI).toInt = ((wdF (PK t n p) : Nat) : Int)) := by
  have hx := lay_TX h.1
  have h143 : gR u 133 15 = some 143 ∧ sh u 143 = (50, 60) := ⟨h.1.2.1 (133, 15, 143) (by decide), h.1.1 143 (by decide)⟩
  have e104 : (104 : Int32).toInt = 104 := rfl
  have e107 : (107 : Int32).toInt = 107 := rfl
  have n1 := nat_of h1
  have g1 := ix_of (m := 60) h1 hc
  rw [n1] at g1
  have S1 : ∀ (u : gW) (a k : Nat) (y : Int32) (b : Nat), sh (sI u a k y) b = sh u b := fun _ _ _ _ _ => rfl
  -- one of the three words
  have word : ∀ (W : Nat) (y a : Int32), W < 3 → wdF (PK t n p) = W → y.toInt = (W : Int) → a.toInt = ((4 * W : Nat) : Int) → ok (kl (f_M_takesWord N 133 a 4 (sI u 143 cI y)) fun x w => gd (x = 0 ∨ x = 1) (some (x, w))) (fun r z => ∃ (b : Bool) (q : Nat), hdA (PK t n) (wdF (PK t n p)) p b q ∧ q ≤ n ∧ MCl u z A cI q ∧ Fr [143] [(133, 11)] u z ∧ (r = 0 ∨ r = 1) ∧ (b = true ↔ r = 1) ∧ (gI z 143 cI).toInt = ((wdF (PK t n p) : Nat) : Int)) := by
    intro W y a hW hw hy ha
    have m0 : MCl u (sI u 143 cI y) A cI p := row_mcl (by omega) h.2.2.2.2.1
    have f0 : Fr [143] [(133, 11)] u (sI u 143 cI y) := Fr_sI Fr.rf (by simp)
    have h0 := h.mcl m0 h.2.2.2.2.2
    have hlt0 : ltr (sI u 143 cI y) := ltr.fr f0 ⟨by simp, by simp⟩ hlt
    refine ok_call (r_word hN hW hlt0 ha h0) ?_
    rintro r z ⟨b, q, hd, hq, am, hr, hb⟩
    refine ok_gdt hr (ok_ret.mpr ⟨b, q, by rw [hw]; exact hd, hq, m0.tr am.mcl, f0.tr (am.1.up (by simp) (by simp)), hr, hb, ?_⟩)
    rw [am.1.i ⟨by simp, by simp⟩, gI_eq, hy, hw]
  unfold f_M_takesHead f_M_takesHead_b0
  simp only [ok_gd, true_and, hx]
  refine ok_call (r_peek h) ?_
  rintro r z ⟨rfl, hr⟩
  rw [ok_cd]
  refine ⟨fun e => ?_, fun e => ?_⟩ <;> rw [ti_eq, hr, e104] at e
  · simp only [ok_gd, ok_rr, true_and, hx, h143]
    refine ⟨_, rfl, ?_⟩
    simp only [ok_gd, ok_bd, true_and, hx, h143, S1, n1, g1, not_false_eq_true]
    exact word 0 0 0 (by decide) (by unfold wdF; rw [if_pos e]) rfl rfl
  rw [ok_cd]
  refine ⟨fun e1 => ?_, fun e1 => ?_⟩ <;> rw [ti_eq, hr, e107] at e1
  · simp only [ok_gd, ok_rr, true_and, hx, h143]
    refine ⟨_, rfl, ?_⟩
    simp only [ok_gd, ok_bd, true_and, hx, h143, S1, n1, g1, not_false_eq_true]
    exact word 1 1 4 (by decide) (by unfold wdF; rw [if_neg e, if_pos e1]) rfl rfl
  · simp only [ok_gd, ok_rr, true_and, hx, h143]
    refine ⟨_, rfl, ?_⟩
    simp only [ok_gd, ok_bd, true_and, hx, h143, S1, n1, g1, not_false_eq_true]
    exact word 2 2 8 (by decide) (by unfold wdF; rw [if_neg e, if_neg e1]) rfl rfl
/-- an E, from its first byte -/
theorem r_takesE (hN : 1000 ≤ N) (h : RD t n u p) (h1 : a1.toInt = (cI : Int)) (hc : cI < 60) (hf : f < 6) (h21 : (gI u 133 21).toInt = (A : Int)) (hA : 100 * f ≤ A ∧ A ≤ 100 * f + p) {ops : List Int} (g : (b = true ∧ SEA t n 0 p q ops ∧ (PK t n q ≠ 38 ∧ PK t n q ≠ 124)) ∨ (b = false ∧ SEf t n 0 p q)) : ok (f_M_takesE N 133 a1 u) (fun r z => MCl u z A cI q ∧ Fr [145, 146, 147, 148] MKC u z ∧ ((b = true ∧ r = 1 ∧ (gI z 145 cI).toInt = (A : Int) ∧ (gI z 146 cI).toInt = ((A + ops.length : Nat) : Int) ∧ rgn z 147 (fun z => z) A ops ∧ (gI z 133 21).toInt = ((A + ops.length : Nat) : Int) ∧ A + ops.length ≤ 100 * f + q) ∨ (b = false ∧ r = 0))) := by
  have hx := lay_TX h.1
  have n1 := nat_of h1
  have g1 := ix_of (m := 60) h1 hc
  rw [n1] at g1
  have S1 : ∀ (u : gW) (a k : Nat) (y : Int32) (b : Nat), sh (sI u a k y) b = sh u b := fun _ _ _ _ _ => rfl
  have R1 : ∀ (u : gW) (a k : Nat) (y : Int32) (b j : Nat), gR (sI u a k y) b j = gR u b j := fun _ _ _ _ _ _ => rfl
  have c21 : gI (sI (sI u 133 22 0) 133 23 0) 133 21 = gI u 133 21 := by rw [gI_nk (by decide), gI_nk (by decide)]
  unfold f_M_takesE f_M_takesE_b0
  simp only [ok_gd, ok_bd, ok_rr, true_and, hx, S1, R1]
  refine ⟨_, rfl, ?_⟩
  simp only [ok_gd, ok_bd, true_and, hx, S1, c21, n1, g1, not_false_eq_true]
  have F0 : Fr [145, 146, 147, 148] MKC u (sI (sI (sI u 133 22 0) 133 23 0) 145 cI (gI u 133 21)) := Fr_sI (Fr_sI (Fr_sI Fr.rf (by simp)) (by simp)) (by simp)
  have M0' : MCl u (sI (sI (sI u 133 22 0) 133 23 0) 145 cI (gI u 133 21)) A cI p := by
    refine ⟨F0.up (by simp) (by simp), by rw [gI_ne (by decide), gI_nk (by decide), gI_nk (by decide)]; exact h.2.2.2.2.1, fun d j h1 h2 h3 => ?_, fun j _ => by rw [gI_ne (by decide), gI_ne (by decide), gI_ne (by decide)]⟩
    rw [gI_sI, if_neg (fun z => h3 z.2), gI_ne (by omega), gI_ne (by omega)]
  have h0 := h.mcl M0' h.2.2.2.2.2
  have a145 : (gI (sI (sI (sI u 133 22 0) 133 23 0) 145 cI (gI u 133 21)) 145 cI).toInt = (A : Int) := by rw [gI_eq]; exact h21
  have a22 : (gI (sI (sI (sI u 133 22 0) 133 23 0) 145 cI (gI u 133 21)) 133 22).toInt = ((0 : Nat) : Int) := by rw [gI_ne (by decide), gI_nk (by decide), gI_eq]; rfl
  have a23 : (gI (sI (sI (sI u 133 22 0) 133 23 0) 145 cI (gI u 133 21)) 133 23).toInt = ((0 : Nat) : Int) := by rw [gI_ne (by decide), gI_eq]; rfl
  have a21 : (gI (sI (sI (sI u 133 22 0) 133 23 0) 145 cI (gI u 133 21)) 133 21).toInt = ((A + 0 : Nat) : Int) := by rw [gI_ne (by decide), c21]; exact h21
  generalize sI (sI (sI u 133 22 0) 133 23 0) 145 cI (gI u 133 21) = w0 at F0 M0' h0 a145 a22 a23 a21
  have hM : M0 t n w0 f A cI := ⟨h0.1, h0.2.1, h0.2.2.1, h0.2.2.2.1, hf, hA.1, hc⟩
  have hX : MX n w0 w0 f A cI [] [] p := ⟨⟨Fr.rf, fun _ _ => rfl, fun _ _ => rfl⟩, h0.2.2.2.2.1, a22, a23, a21, trivial, trivial, by simp; omega, h0.2.2.2.2.2⟩
  have end_ : ∀ z, MD w0 z A cI → (gI z 133 11).toInt = (q : Int) → MCl u z A cI q ∧ Fr [145, 146, 147, 148] MKC u z := fun z hd hp => by
    refine ⟨M0'.tr ⟨hd.1.up (by simp) (by simp), hp, fun d j h1 h2 h3 => ?_, hd.2.2⟩, F0.tr (hd.1.up (by simp) (by simp))⟩
    by_cases e : d = 146
    · rw [e]; exact hd.2.1 j h3
    · exact hd.1.i ⟨by simp; omega, by simp; omega⟩
  show ok (runE N N a1 1 w0) _
  rcases g with ⟨rfl, g, gk⟩ | ⟨rfl, g⟩
  · refine g N N f A cI w0 w0 a1 [] [] _ hN hM h1 hX rfl (by omega) (Or.inl rfl) (fun m' z P o hm' hP ho q' => ?_)
    have hin' := (q'.st hM).2.2.2.1
    obtain ⟨m', rfl⟩ : ∃ m'', m' = m'' + 1 := ⟨m' - 1, by omega⟩
    show ok (f_M_takesE_b22 N (itr (LEf N) m') 133 a1 0 z) _
    refine m_b22end hN hM h1 q' (Or.inl rfl) hP gk (fun _ z2 qz hz146 => ?_) (fun S' z => by cases z) (fun z => absurd rfl z) (Or.inl rfl)
    rw [List.nil_append, ← ho] at qz hz146
    obtain ⟨e1, e2⟩ := end_ z2 qz.1 qz.2.1
    refine ⟨e1, e2, Or.inl ⟨rfl, rfl, ?_, hz146, qz.2.2.2.2.2.2.1, qz.2.2.2.2.1, ?_⟩⟩
    · rw [qz.1.1.i ⟨by simp, by simp⟩]; exact a145
    · have := qz.2.2.2.2.2.2.2.1
      simp only [List.length_nil] at this; omega
  · refine g N N f A cI w0 w0 a1 [] [] _ hN hM h1 hX rfl (by omega) (Or.inl rfl) (fun z hd hp => ?_)
    obtain ⟨e1, e2⟩ := end_ z hd hp
    exact ⟨e1, e2, Or.inr ⟨rfl, rfl⟩⟩
set_option maxHeartbeats 1000000 in
theorem m_clause (hN : 1000 ≤ N) (hlt : ltr u) (h : RD t n u p) (h1 : a1.toInt = (cI : Int)) (hc : cI < 60) (hf : f < 6) (h21 : (gI u 133 21).toInt = (A : Int)) (hA : 100 * f ≤ A ∧ A ≤ 100 * f + p) (g : clA t n p b q x) (hq : q ≤ n) : ok (f_M_takesClause N 133 a1 u) (fun r z => MCl u z A cI q ∧ ((b = true ∧ r = 1 ∧ (gI z 133 21).toInt = ((A + x.2.2.length : Nat) : Int) ∧ A + x.2.2.length ≤ 100 * f + q ∧ KC z 143 144 145 146 147 (fun z => z) (A + x.2.2.length) cI [x]) ∨ (b = false ∧ r = 0))) := by
  have hx := lay_TX h.1
  have n1 := nat_of h1
  have g1 := ix_of (m := 60) h1 hc
  rw [n1] at g1
  have S1 : ∀ (u : gW) (a k : Nat) (y : Int32) (b : Nat), sh (sI u a k y) b = sh u b := fun _ _ _ _ _ => rfl
  have R1 : ∀ (u : gW) (a k : Nat) (y : Int32) (b j : Nat), gR (sI u a k y) b j = gR u b j := fun _ _ _ _ _ _ => rfl
  have e32 : (32 : Int32).toInt = 32 := rfl
  have hW := wdF_in (x := PK t n p)
  unfold f_M_takesClause f_M_takesClause_b0
  simp only [ok_gd, true_and, hx]
  refine ok_call (r_head (A := A) hN hlt h h1 hc) ?_
  rintro r1 u1 ⟨b1, q1, hd, hq1, m1, f1, hr1, hb1, w1⟩
  unfold clA at g
  have bad : r1 = 0 → b1 = false := fun e => by
    cases b1
    · rfl
    · have := hb1.mp rfl; rw [e] at this; exact absurd this (by decide)
  rw [ok_cd]
  refine ⟨fun e => ?_, fun e => ?_⟩
  · have hb := bad e
    subst hb
    rcases g with ⟨g, rfl⟩ | ⟨q0, g, -⟩
    · obtain ⟨-, rfl⟩ := hdA_det hd g
      exact ok_ret.mpr ⟨m1, Or.inr ⟨rfl, rfl⟩⟩
    · have := (hdA_det hd g).1; cases this
  have hb : b1 = true := hb1.mpr (hr1.elim (fun z => absurd z e) id)
  subst hb
  rcases g with ⟨g, -⟩ | ⟨q0, g, g'⟩
  · have := (hdA_det hd g).1; cases this
  obtain ⟨-, rfl⟩ := hdA_det hd g
  have h1' := h.mcl m1 hq1
  have hx1 := lay_TX h1'.1
  simp only [ok_gd, true_and, hx1]
  refine ok_call (r_number hN h1') ?_
  rintro r2 u2 ⟨q2, v, hnm, hq2, a2, hv⟩
  have m2 : MCl u u2 A cI q2 := m1.tr (A2.mcl a2)
  rcases hv with ⟨rfl, rfl⟩ | ⟨hv, rfl, h12⟩
  · refine ok_cdt rfl (ok_ret.mpr ?_)
    rcases g' with ⟨g', rfl⟩ | ⟨q1', v', hv', g', -⟩
    · obtain ⟨rfl, -⟩ := nmA_det hnm g'
      exact ⟨m2, Or.inr ⟨rfl, rfl⟩⟩
    · obtain ⟨-, e⟩ := nmA_det hnm g'
      omega
  refine ok_cdf (by decide) ?_
  rcases g' with ⟨g', -⟩ | ⟨q1', v', hv', g', g''⟩
  · obtain ⟨-, e⟩ := nmA_det hnm g'
    omega
  obtain ⟨rfl, rfl⟩ := nmA_det hnm g'
  have h2' := h.mcl m2 hq2
  have hx2 := lay_TX h2'.1
  have x2 : gR u2 133 16 = some 144 ∧ sh u2 144 = (50, 60) ∧ gR u2 133 15 = some 143 ∧ sh u2 143 = (50, 60) := ⟨h2'.1.2.1 (133, 16, 144) (by decide), h2'.1.1 144 (by decide), h2'.1.2.1 (133, 15, 143) (by decide), h2'.1.1 143 (by decide)⟩
  have m3 : MCl u (sI u2 144 cI (gI u2 133 12)) A cI q2 := m2.tr (row_mcl (by omega) h2'.2.2.2.2.1)
  have h3' := h.mcl m3 hq2
  have hx3 := lay_TX h3'.1
  have w3 : (gI (sI u2 144 cI (gI u2 133 12)) 143 cI).toInt = ((wdF (PK t n p) : Nat) : Int) := by rw [gI_ne (by decide), a2.1.i ⟨by simp, by simp⟩]; exact w1
  have v3 : (gI (sI u2 144 cI (gI u2 133 12)) 144 cI).toInt = v := by rw [gI_eq]; exact h12
  have b3 : (gI (sI u2 144 cI (gI u2 133 12)) 133 21).toInt = (A : Int) := by rw [gI_ne (by decide), a2.1.c ⟨by simp, by simp⟩, f1.c ⟨by simp, by simp⟩]; exact h21
  simp only [ok_gd, ok_bd, ok_rr, true_and, hx2, x2]
  refine ⟨_, rfl, ?_⟩
  simp only [ok_gd, ok_bd, ok_rr, true_and, hx2, x2, S1, R1, n1, g1, not_false_eq_true]
  refine ⟨_, rfl, ?_⟩
  have hq2' := hq2
  simp only [ok_gd, ok_bd, true_and, x2, S1, n1, g1, not_false_eq_true]
  generalize eu3 : sI u2 144 cI (gI u2 133 12) = u3 at m3 h3' hx3 w3 v3 b3
  rw [ok_cd]
  refine ⟨fun e2 => ?_, fun e2 => ?_⟩ <;> rw [ti_eq, w3, ti_2] at e2
  · rcases g'' with ⟨g3, rfl, rfl, rfl⟩ | ⟨g3, -⟩
    · refine ok_ret.mpr ⟨m3, Or.inl ⟨rfl, rfl, b3, ?_, ⟨⟨by rw [w3, g3]; rfl, v3, fun z => absurd rfl z⟩, trivial⟩⟩⟩
      have hi := hnm
      have hn1 := nmA_in hnm
      have hd' : p ≤ q1 := by
        rcases hd with ⟨j, -, -, -, hbad, -⟩ | ⟨-, -, rfl⟩
        · cases hbad
        · omega
      show A + 0 ≤ 100 * f + q; omega
    · omega
  rcases g'' with ⟨g3, -⟩ | ⟨g3, g''⟩
  · omega
  refine ok_call (r_takes (c := 32) h3' (by decide)) ?_
  rintro r4 u4 (⟨rfl, hpk, hin, am4⟩ | ⟨rfl, hpk, rfl⟩) <;> rw [e32] at hpk
  rotate_left 1
  · refine ok_cdt rfl (ok_ret.mpr ?_)
    rcases g'' with ⟨-, rfl, rfl⟩ | ⟨g4, -⟩
    · exact ⟨m3, Or.inr ⟨rfl, rfl⟩⟩
    · exact absurd g4 hpk
  refine ok_cdf (by decide) ?_
  rcases g'' with ⟨g4, -⟩ | ⟨-, g''⟩
  · exact absurd hpk g4
  have m4 : MCl u u4 A cI (q2 + 1) := m3.tr am4.mcl
  have h4' := h.mcl m4 (by omega)
  have hx4 := lay_TX h4'.1
  have w4 : (gI u4 143 cI).toInt = ((wdF (PK t n p) : Nat) : Int) := by rw [am4.1.i ⟨by simp, by simp⟩]; exact w3
  have v4 : (gI u4 144 cI).toInt = v := by rw [am4.1.i ⟨by simp, by simp⟩]; exact v3
  have b4 : (gI u4 133 21).toInt = (A : Int) := by rw [am4.1.c ⟨by simp, by simp⟩]; exact b3
  have hp4 : p ≤ q2 + 1 := by
    have hn1 := nmA_in hnm
    rcases hd with ⟨j, -, -, -, hbad, -⟩ | ⟨-, -, rfl⟩
    · cases hbad
    · omega
  simp only [ok_gd, true_and, hx4]
  rcases g'' with ⟨gE, rfl⟩ | ⟨ops, gE, gk, rfl, rfl⟩
  · refine ok_call (r_takesE (b := false) (ops := []) (q := q) hN h4' h1 hc hf b4 ⟨hA.1, by omega⟩ (Or.inr ⟨rfl, gE⟩)) ?_
    rintro r5 u5 ⟨m5, -, hr5⟩
    rcases hr5 with ⟨hb, -⟩ | ⟨-, rfl⟩
    · cases hb
    · exact ok_cdt rfl (ok_ret.mpr ⟨m4.tr m5, Or.inr ⟨rfl, rfl⟩⟩)
  · refine ok_call (r_takesE (b := true) (ops := ops) (q := q) hN h4' h1 hc hf b4 ⟨hA.1, by omega⟩ (Or.inl ⟨rfl, gE, gk⟩)) ?_
    rintro r5 u5 ⟨m5, f5, hr5⟩
    rcases hr5 with ⟨-, rfl, e1, e2, e3, e4, e5⟩ | ⟨hb, -⟩
    · refine ok_cdf (by decide) (ok_ret.mpr ⟨m4.tr m5, Or.inl ⟨rfl, rfl, e4, e5, ⟨⟨?_, ?_, fun _ => ⟨A, e1, e2, Nat.le_refl _, e3⟩⟩, trivial⟩⟩⟩)
      · rw [f5.i ⟨by simp, by simp⟩]; exact w4
      · rw [f5.i ⟨by simp, by simp⟩]; exact v4
    · cases hb
end MCS
