/-! ===== a town's text: the whole text, in the model =====  -/
/-- a clause begins at p behind c others -/
def TS (t : Nat → Int) (n : Nat) : Nat → Nat → List Cl → Bool → Nat → Prop
  | _, p, [], b, q => b = false ∧ ∃ x, clA t n p false q x ∧ q ≤ n
  | c, p, x :: R, b, q => ∃ p', (clA t n p true p' x ∧ p' ≤ n) ∧ TL t n (c + 1) p' R b q
section GOE
variable {N n p q f c A k : Nat} {u z v : gW} {t : Nat → Int} {a1 : Int32} {b : Bool} {x : Cl} {L R : List Cl}
theorem TX_TS (h : TX t n L b q) : TS t n 0 0 L b q := by
  cases L with
  | nil => exact h
  | cons x R => exact h
theorem TL_len : ∀ (R : List Cl) (c p : Nat), c ≤ 10 → TL t n c p R b q → c + R.length ≤ 10 := by
  intro R
  induction R with
  | nil => intro c p h _; exact h
  | cons x R ih =>
    intro c p h hT
    obtain ⟨-, h1, -, p', -, h2⟩ := hT
    have := ih (c + 1) p' (by omega) h2
    simp only [List.length_cons]; omega
/-- only clauses of town f, only what is put out from 100 f on -/
def MG (u z : gW) (f : Nat) : Prop := Fr [142, 143, 144, 145, 146, 147, 148] MKC u z ∧ (∀ d j, 143 ≤ d → d ≤ 146 → j < 10 * f → gI z d j = gI u d j) ∧ (∀ j, j < 100 * f → gI z 147 j = gI u 147 j) ∧ ∀ j, j ≠ f → gI z 142 j = gI u 142 j
theorem MG.tr (h : MG u z f) (g : MG z v f) : MG u v f := ⟨h.1.tr g.1, fun d j h1 h2 h3 => by rw [g.2.1 d j h1 h2 h3]; exact h.2.1 d j h1 h2 h3, fun j hj => by rw [g.2.2.1 j hj]; exact h.2.2.1 j hj, fun j hj => by rw [g.2.2.2 j hj]; exact h.2.2.2 j hj⟩
theorem MCl.mg {cI : Nat} (h : MCl u z A cI q) (h1 : 10 * f ≤ cI) (h2 : 100 * f ≤ A) : MG u z f := ⟨h.1.up (by simp) (by simp), fun d j g1 g2 g3 => h.2.2.1 d j g1 g2 (by omega), fun j hj => h.2.2.2 j (by omega), fun j _ => h.1.i ⟨by simp, by simp⟩⟩
theorem AM.mg (h : AM u z q) : MG u z f := ⟨h.1.up (by simp) (by simp), fun d j g1 g2 _ => h.1.i ⟨by simp, by simp; omega⟩, fun j _ => h.1.i ⟨by simp, by simp⟩, fun j _ => h.1.i ⟨by simp, by simp⟩⟩
def MGx (u : gW) (f : Nat) (b : Bool) (q : Nat) (L : List Cl) (r : Int32) (z : gW) : Prop := MG u z f ∧ ((b = true ∧ r = 1 ∧ (gI z 142 f).toInt = ((L.length : Nat) : Int) ∧ KC z 143 144 145 146 147 (fun z => z) (100 * f + 100) (10 * f) L) ∨ (b = false ∧ r = 0 ∧ (gI z 133 11).toInt = (q : Int)))
theorem MGx.tr {r : Int32} (h : MG u z f) (g : MGx z f b q L r v) : MGx u f b q L r v := ⟨h.tr g.1, g.2⟩
set_option maxHeartbeats 1000000 in
theorem m_l15 (hN : 1000 ≤ N) (hf : f < 6) (h1 : a1.toInt = (f : Int)) : ∀ (R L0 : List Cl) (c p A m : Nat) (u : gW) (a2 : Int32), R.length < m → c < 10 → L0.length = c → a2.toInt = (c : Int) → ltr u → RD t n u p → (gI u 133 21).toInt = (A : Int) → 100 * f ≤ A ∧ A ≤ 100 * f + p → KC u 143 144 145 146 147 (fun z => z) A (10 * f) L0 → TS t n c p R b q →
    ok (itr (fun rec (q : Nat × Int32 × Int32 × gW) => f_M_goesText_b15 N rec q.1 q.2.1 q.2.2.1 q.2.2.2) m (133, a1, a2, u)) (MGx u f b q (L0 ++ R)) := by
  have e10 : (10 : Int32).toInt = 10 := rfl
  have e59 : (59 : Int32).toInt = 59 := rfl
  intro R
  induction R with
  | nil =>
    intro L0 c p A m u a2 hm hc hl ha2 hlt h h21 hA hkc hT
    obtain ⟨rfl, x, hcl, hq⟩ := hT
    obtain ⟨m, rfl⟩ : ∃ m', m = m' + 1 := ⟨m - 1, by omega⟩
    have hx := lay_TX h.1
    have m1 : (10 * a1).toInt = 10 * (f : Int) := by rw [ti_mul] <;> rw [h1, e10]; omega
    have m2 : (10 * a1 + a2).toInt = ((10 * f + c : Nat) : Int) := by rw [ti_add] <;> rw [m1, ha2] <;> omega
    rw [itr_s]
    show ok (f_M_goesText_b15 N _ 133 a1 a2 u) _
    unfold f_M_goesText_b15
    simp only [ok_gd, ok_bd, true_and, hx]
    refine ok_call (m_clause (f := f) hN hlt h m2 (by omega) hf h21 hA hcl hq) ?_
    rintro r z ⟨mc, hr⟩
    rcases hr with ⟨hb, -⟩ | ⟨-, rfl⟩
    · cases hb
    · exact ok_cdt rfl (ok_ret.mpr ⟨mc.mg (by omega) hA.1, Or.inr ⟨rfl, rfl, mc.2.1⟩⟩)
  | cons x R ih =>
    intro L0 c p A m u a2 hm hc hl ha2 hlt h h21 hA hkc hT
    obtain ⟨p', ⟨hcl, hp'⟩, hTL⟩ := hT
    simp only [List.length_cons] at hm
    obtain ⟨m, rfl⟩ : ∃ m', m = m' + 1 := ⟨m - 1, by omega⟩
    have hx := lay_TX h.1
    have hn := h.2.1
    have m1 : (10 * a1).toInt = 10 * (f : Int) := by rw [ti_mul] <;> rw [h1, e10]; omega
    have m2 : (10 * a1 + a2).toInt = ((10 * f + c : Nat) : Int) := by rw [ti_add] <;> rw [m1, ha2] <;> omega
    rw [itr_s]
    show ok (f_M_goesText_b15 N _ 133 a1 a2 u) _
    unfold f_M_goesText_b15
    simp only [ok_gd, ok_bd, true_and, hx]
    refine ok_call (m_clause (f := f) hN hlt h m2 (by omega) hf h21 hA hcl hp') ?_
    rintro r z ⟨mc, hr⟩
    rcases hr with ⟨-, rfl, z21, zA, zkc⟩ | ⟨hb, -⟩
    rotate_left 1
    · cases hb
    refine ok_cdf (by decide) ?_
    have hz := h.mcl mc hp'
    have hxz := lay_TX hz.1
    have n1 := nat_of h1
    have g1 := ix_of (m := 6) h1 hf
    rw [n1] at g1
    have x142 : gR z 133 14 = some 142 ∧ sh z 142 = (50, 6) := ⟨hz.1.2.1 (133, 14, 142) (by decide), hz.1.1 142 (by decide)⟩
    have hp1 : (a2 + 1).toInt = ((c + 1 : Nat) : Int) := ti_p1 ha2 (by omega)
    have S1 : ∀ (u : gW) (a k : Nat) (y : Int32) (b : Nat), sh (sI u a k y) b = sh u b := fun _ _ _ _ _ => rfl
    simp only [ok_gd, ok_bd, ok_rr, true_and, hxz, x142]
    refine ⟨_, rfl, ?_⟩
    simp only [ok_gd, ok_bd, true_and, hxz, x142, S1, n1, g1, not_false_eq_true]
    have F2 : Fr [142] [] z (sI z 142 f (a2 + 1)) := Fr_sI Fr.rf (by simp)
    have e2 : ∀ a j, a ≠ 142 → gI (sI z 142 f (a2 + 1)) a j = gI z a j := fun a j ha => gI_ne ha
    have mg2 : MG z (sI z 142 f (a2 + 1)) f := ⟨F2.up (by simp) (by simp), fun d j g1 g2 _ => e2 d j (by omega), fun j _ => e2 _ j (by decide), fun j hj => gI_nk hj⟩
    have v142 : (gI (sI z 142 f (a2 + 1)) 142 f).toInt = ((c + 1 : Nat) : Int) := by rw [gI_eq]; exact hp1
    have h2 := hz.fr F2 ⟨by simp, by simp⟩ ⟨by simp, by simp⟩ (by rw [e2 _ _ (by decide)]; exact mc.2.1) hp'
    have mg12 : MG u (sI z 142 f (a2 + 1)) f := (mc.mg (by omega) hA.1).tr mg2
    -- the clauses so far
    have hkc2 : KC (sI z 142 f (a2 + 1)) 143 144 145 146 147 (fun z => z) (A + x.2.2.length) (10 * f) (L0 ++ [x]) := by
      refine KC.snoc L0 (10 * f) ?_ ?_
      · refine KC.c (by omega) L0 (10 * f) (fun d j hd g1 g2 => ?_) (fun j hj => ?_) hkc
        · rw [e2 _ _ (by omega)]; exact mc.2.2.1 d j (by omega) (by omega) (by omega)
        · rw [e2 _ _ (by decide)]; exact mc.2.2.2 j hj
      · rw [hl]
        exact KC.c (Nat.le_refl _) [x] _ (fun d j hd _ _ => e2 _ _ (by omega)) (fun j _ => e2 _ _ (by decide)) zkc
    have w21 : (gI (sI z 142 f (a2 + 1)) 133 21).toInt = ((A + x.2.2.length : Nat) : Int) := by rw [e2 _ _ (by decide)]; exact z21
    have hlt2 : ltr (sI z 142 f (a2 + 1)) := ltr.fr F2 ⟨by simp, by simp⟩ (ltr.fr mc.1 ⟨by simp, by simp⟩ hlt)
    generalize ew : sI z 142 f (a2 + 1) = w2 at F2 mg2 v142 h2 mg12 hkc2 w21 hlt2
    have e11 : gI w2 133 11 = gI z 133 11 := by rw [← ew]; exact gI_ne (by decide)
    have hfin : ∀ b : Bool, b = true → R = [] → MGx u f b q (L0 ++ x :: R) 1 w2 := fun b hb hR => by
      subst hR
      refine ⟨mg12, Or.inl ⟨hb, rfl, by rw [v142, List.length_append, hl]; rfl, ?_⟩⟩
      exact KC.c (by omega) _ _ (fun _ _ _ _ _ => rfl) (fun _ _ => rfl) hkc2
    have h10 := h2.2.2.1
    have h11 := h2.2.2.2.2.1
    have hbad : ∀ (v : gW), MG w2 v f → (gI v 133 11).toInt = (q : Int) → b = false → MGx u f b q (L0 ++ x :: R) 0 v := fun v hv hq hb => ⟨mg12.tr hv, Or.inr ⟨hb, rfl, hq⟩⟩
    rw [ok_cd]
    refine ⟨fun e => ?_, fun e => ?_⟩ <;> rw [ti_eq, h11, h10] at e
    · have epn : p' = n := by omega
      cases R with
      | nil =>
        rcases hTL with ⟨-, rfl, -⟩ | ⟨g, -⟩
        · exact ok_ret.mpr (hfin true rfl rfl)
        · exact absurd epn g
      | cons y R => exact absurd epn hTL.1
    have hpn : p' ≠ n := by omega
    rw [ok_cd]
    refine ⟨fun ec => ?_, fun ec => ?_⟩ <;> rw [ti_eq, hp1, e10] at ec
    · cases R with
      | nil =>
        rcases hTL with ⟨g, -⟩ | ⟨-, rfl, ⟨-, rfl⟩ | ⟨g, -⟩⟩
        · exact absurd g hpn
        · exact ok_ret.mpr (hbad w2 ⟨Fr.rf, fun _ _ _ _ _ => rfl, fun _ _ => rfl, fun _ _ => rfl⟩ h11 rfl)
        · omega
      | cons y R => exact absurd (by omega) hTL.2.1
    refine ok_call (r_takes (c := 59) h2 (by decide)) ?_
    rintro r4 u4 (⟨rfl, hpk, hin, am4⟩ | ⟨rfl, hpk, rfl⟩) <;> rw [e59] at hpk
    · refine ok_cdf (by decide) ?_
      have hTS : TS t n (c + 1) (p' + 1) R b q := by
        cases R with
        | nil =>
          rcases hTL with ⟨g, -⟩ | ⟨-, rfl, ⟨g, -⟩ | ⟨-, ⟨g, -⟩ | ⟨-, g⟩⟩⟩
          · exact absurd g hpn
          · omega
          · exact absurd hpk g
          · exact ⟨rfl, g⟩
        | cons y R => exact hTL.2.2.2
      have := ih (L0 ++ [x]) (c + 1) (p' + 1) (A + x.2.2.length) m u4 (a2 + 1) (by omega) (by omega) (by simp [hl]) hp1 (ltr.fr am4.1 ⟨by simp, by simp⟩ hlt2) (h2.am am4 (by omega)) (by rw [am4.1.c ⟨by simp, by simp⟩]; exact w21) (by omega) (KC.c (Nat.le_refl _) _ _ (fun d j hd _ _ => am4.1.i ⟨by simp, by simp; omega⟩) (fun j _ => am4.1.i ⟨by simp, by simp⟩) hkc2) hTS
      refine this.mono ?_
      intro r v hv
      rw [List.append_assoc] at hv
      exact MGx.tr (mg12.tr am4.mg) hv
    · refine ok_cdt rfl ?_
      cases R with
      | nil =>
        rcases hTL with ⟨g, -⟩ | ⟨-, rfl, ⟨g, -⟩ | ⟨-, ⟨-, rfl⟩ | ⟨g, -⟩⟩⟩
        · exact absurd g hpn
        · omega
        · exact ok_ret.mpr (hbad u4 ⟨Fr.rf, fun _ _ _ _ _ => rfl, fun _ _ => rfl, fun _ _ => rfl⟩ h11 rfl)
        · exact absurd g hpk
      | cons y R => exact absurd hTL.2.2.1 hpk
theorem m_goesText (hN : 1000 ≤ N) (hf : f < 6) (h1 : a1.toInt = (f : Int)) (hlt : ltr u) (hL : Lay u) (hn : n ≤ 100) (h10 : (gI u 133 10).toInt = (n : Int)) (ht : ∀ j, j < n → (gI u 141 j).toInt = t j ∧ 0 ≤ t j ∧ t j ≤ 127) (hT : TX t n L b q) : ok (f_M_goesText N 133 a1 u) (MGx u f b q L) := by
  have hx := lay_TX hL
  have e100 : (100 : Int32).toInt = 100 := rfl
  have m1 : (100 * a1).toInt = ((100 * f : Nat) : Int) := by rw [ti_mul] <;> rw [h1, e100] <;> omega
  unfold f_M_goesText f_M_goesText_b0
  have S1 : ∀ (u : gW) (a k : Nat) (y : Int32) (b : Nat), sh (sI u a k y) b = sh u b := fun _ _ _ _ _ => rfl
  simp only [ok_gd, ok_bd, true_and, hx, S1]
  have F0 : Fr [] [(133, 11), (133, 21)] u (sI (sI u 133 11 0) 133 21 (100 * a1)) := Fr_sI (Fr_sI Fr.rf (by simp)) (by simp)
  have h0 : RD t n (sI (sI u 133 11 0) 133 21 (100 * a1)) 0 := ⟨F0.lay hL, hn, by rw [F0.c ⟨by simp, by simp⟩]; exact h10, fun j hj => by rw [F0.i ⟨by simp, by simp⟩]; exact ht j hj, by rw [gI_nk (by decide), gI_eq]; rfl, Nat.zero_le _⟩
  have g0 : MG u (sI (sI u 133 11 0) 133 21 (100 * a1)) f := ⟨F0.up (by simp) (by simp), fun d j g1 g2 _ => F0.i ⟨by simp, by simp; omega⟩, fun j _ => F0.i ⟨by simp, by simp⟩, fun j _ => F0.i ⟨by simp, by simp⟩⟩
  have hlen : L.length ≤ 10 := by
    cases L with
    | nil => simp
    | cons x R =>
      obtain ⟨p', -, hTL⟩ := hT
      have := TL_len R 1 p' (by decide) hTL
      simp only [List.length_cons]; omega
  unfold f_M_goesText_l15
  refine (m_l15 (b := b) (q := q) hN hf h1 L [] 0 0 (100 * f) N _ 0 (by omega) (by decide) rfl rfl (ltr.fr F0 ⟨by simp, by simp⟩ hlt) h0 (by rw [gI_eq]; exact m1) (by omega) trivial (TX_TS hT)).mono ?_
  intro r v hv
  exact MGx.tr g0 hv
end GOE
