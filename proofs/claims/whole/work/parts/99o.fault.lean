/-! ===== a town's text: the whole text, in the class =====  -/
/-- behind c clauses, at p: what is still read -/
def TL (t : Nat → Int) (n : Nat) : Nat → Nat → List Cl → Bool → Nat → Prop
  | c, p, [], b, q => (p = n ∧ b = true ∧ q = p) ∨ (p ≠ n ∧ b = false ∧ ((c = 10 ∧ q = p) ∨ (c ≠ 10 ∧ ((PK t n p ≠ 59 ∧ q = p) ∨ (PK t n p = 59 ∧ ∃ x, clA t n (p + 1) false q x ∧ q ≤ n)))))
  | c, p, x :: R, b, q => p ≠ n ∧ c ≠ 10 ∧ PK t n p = 59 ∧ ∃ p', (clA t n (p + 1) true p' x ∧ p' ≤ n) ∧ TL t n (c + 1) p' R b q
def TX (t : Nat → Int) (n : Nat) : List Cl → Bool → Nat → Prop
  | [], b, q => b = false ∧ ∃ x, clA t n 0 false q x ∧ q ≤ n
  | x :: R, b, q => ∃ p, (clA t n 0 true p x ∧ p ≤ n) ∧ TL t n 1 p R b q
abbrev TF (tp : Nat) (w u : gW) : Prop := Fr [tp, tp + 1, tp + 2, tp + 3, tp + 4, tp + 5, tp + 6, tp + 7] [] w u
section FAU
variable {N tp n f : Nat} {w u z : gW} {t : Nat → Int} {a2 : Int32} {L : List Cl}
theorem KF.tf (h : KF tp w u) : TF tp w u := h.up2 (by simp) (by simp)
set_option maxRecDepth 20000 in
theorem ref85 : ∀ f, f < 6 → ∀ s ∈ refT, ¬ (s.1 = 85 + 8 * f ∧ s.2.1 = 10) := by decide
theorem TF.text (h : TF tp w u) (hf : f < 6) (e : tp = 85 + 8 * f) (ht : ∀ j, j < n → (gI w 73 j).toInt = t j ∧ 0 ≤ t j ∧ t j ≤ 127) : ∀ j, j < n → (gI u 73 j).toInt = t j ∧ 0 ≤ t j ∧ t j ≤ 127 := fun j hj => by
  rw [h.i ⟨by simp; omega, by simp⟩]; exact ht j hj
set_option maxHeartbeats 2000000 in
theorem c_faultOf (hN : 1000 ≤ N) (hL : Lay w) (hf : f < 6) (etp : tp = 85 + 8 * f) (h2 : a2.toInt = (n : Int)) (hn : n ≤ 100) (ht : ∀ j, j < n → (gI w 73 j).toInt = t j ∧ 0 ≤ t j ∧ t j ≤ 127) : ok (f_Tn_faultOf N tp 73 a2 w) (fun r u => TF tp w u ∧ ((r.toInt = -1 ∧ ∃ x R, TX t n (x :: R) true n ∧ TW u tp (x :: R)) ∨ ∃ (q : Nat) (L : List Cl), r.toInt = (q : Int) ∧ q ≤ n ∧ TX t n L false q)) := by
  have hT : isT tp := Or.inr ⟨f, hf, etp⟩
  have t0 := (lay_T hL hT).1
  have S1 : ∀ (u : gW) (a k : Nat) (y : Int32) (b : Nat), sh (sI u a k y) b = sh u b := fun _ _ _ _ _ => rfl
  have S2 : ∀ (u : gW) (a k : Nat) (y : Option Nat) (b : Nat), sh (sR u a k y) b = sh u b := fun _ _ _ _ _ => rfl
  unfold f_Tn_faultOf f_Tn_faultOf_b0
  simp only [ok_gd, ok_bd, true_and, t0, S1, S2]
  have F0 : TF tp w (sI (sI (sI (sI (sR w tp 10 (some 73)) tp 11 a2) tp 12 0) tp 8 0) tp 6 0) := Fr_sI (Fr_sI (Fr_sI (Fr_sI (Fr_sR Fr.rf (by simp) (by rw [etp]; exact ref85 f hf)) (by simp)) (by simp)) (by simp)) (by simp)
  have H0 : CT (sI (sI (sI (sI (sR w tp 10 (some 73)) tp 11 a2) tp 12 0) tp 8 0) tp 6 0) tp t n := by
    refine ⟨F0.lay hL, hT, ?_, ?_, hn, F0.text hf etp ht⟩
    · show gR (sR w tp 10 (some 73)) tp 10 = _
      rw [gR_sR, if_pos ⟨rfl, rfl⟩]
    · rw [gI_nk (by decide), gI_nk (by decide), gI_nk (by decide), gI_eq]; exact h2
  have p0 : (gI (sI (sI (sI (sI (sR w tp 10 (some 73)) tp 11 a2) tp 12 0) tp 8 0) tp 6 0) tp 12).toInt = ((0 : Nat) : Int) := by rw [gI_nk (by decide), gI_nk (by decide), gI_eq]; rfl
  have q0 : (gI (sI (sI (sI (sI (sR w tp 10 (some 73)) tp 11 a2) tp 12 0) tp 8 0) tp 6 0) tp 8).toInt = ((0 : Nat) : Int) := by rw [gI_nk (by decide), gI_eq]; rfl
  have r0 : (gI (sI (sI (sI (sI (sR w tp 10 (some 73)) tp 11 a2) tp 12 0) tp 8 0) tp 6 0) tp 6).toInt = ((0 : Nat) : Int) := by rw [gI_eq]; rfl
  generalize sI (sI (sI (sI (sR w tp 10 (some 73)) tp 11 a2) tp 12 0) tp 8 0) tp 6 0 = w0 at F0 H0 p0 q0 r0
  refine ok_call (c_clause hN H0 p0 (Nat.zero_le _) q0 (Nat.le_refl _) r0 (by decide)) ?_
  rintro r1 u1 ⟨f1, c1, b1, p1, x1, cl1, pp1, pn1, hr1⟩
  have b80f : ∀ (u : gW) (p : Nat) (L : List Cl) (a3 : Int32), TF tp w u → Lay u → (gI u tp 12).toInt = (p : Int) → p ≤ n → TX t n L false p → (a3 = 0 ∨ p ≠ n) → ok (f_Tn_faultOf_b80 N tp a2 a3 u) (fun r u => TF tp w u ∧ ((r.toInt = -1 ∧ ∃ x R, TX t n (x :: R) true n ∧ TW u tp (x :: R)) ∨ ∃ (q : Nat) (L : List Cl), r.toInt = (q : Int) ∧ q ≤ n ∧ TX t n L false q)) := by
    intro u p L a3 f hLu hp hpn htx ha
    have t0 := (lay_T hLu hT).1
    unfold f_Tn_faultOf_b80
    have b92 : ok (f_Tn_faultOf_b92 N tp u) (fun r u => TF tp w u ∧ ((r.toInt = -1 ∧ ∃ x R, TX t n (x :: R) true n ∧ TW u tp (x :: R)) ∨ ∃ (q : Nat) (L : List Cl), r.toInt = (q : Int) ∧ q ≤ n ∧ TX t n L false q)) := by
      unfold f_Tn_faultOf_b92
      simp only [ok_gd, ok_bd, true_and, t0]
      exact ok_ret.mpr ⟨f, Or.inr ⟨p, L, hp, hpn, htx⟩⟩
    rw [ok_cd]
    refine ⟨fun _ => b92, fun e => ?_⟩
    simp only [ok_gd, ok_bd, true_and, t0]
    refine ok_cdf (by rw [ti_le, h2, hp]; rcases ha with ha | ha; exact absurd ha e; omega) b92
  have b80t : ∀ (u : gW) (kk : Nat) (x : Cl) (R : List Cl) (a3 : Int32), TF tp w u → Lay u → (gI u tp 12).toInt = (n : Int) → TX t n (x :: R) true n → a3 ≠ 0 → (gI u tp 6).toInt = (((x :: R).length : Nat) : Int) → KC u (tp + 2) (tp + 3) (tp + 4) (tp + 5) (tp + 6) cdz kk 0 (x :: R) → kk ≤ 100 → (∀ y ∈ x :: R, WFx y) → (x :: R).length ≤ 10 → ok (f_Tn_faultOf_b80 N tp a2 a3 u) (fun r u => TF tp w u ∧ ((r.toInt = -1 ∧ ∃ x R, TX t n (x :: R) true n ∧ TW u tp (x :: R)) ∨ ∃ (q : Nat) (L : List Cl), r.toInt = (q : Int) ∧ q ≤ n ∧ TX t n L false q)) := by
    intro u kk x R a3 f hLu hp htx ha h6 hkc hkk hwf hlen
    have t0 := (lay_T hLu hT).1
    have hw : WF (x :: R) := hwf
    have htc := hkc.tc hkk
    unfold f_Tn_faultOf_b80
    refine ok_cdf ha ?_
    simp only [ok_gd, ok_bd, true_and, t0]
    refine ok_cdt (by rw [ti_le, h2, hp]; omega) ?_
    refine ok_call (c_findMost hN hLu hT h6 htc hlen) ?_
    rintro - u2 ⟨f2, hm⟩
    have hL2 := f2.lay hLu
    have t2 := (lay_T hL2 hT).1
    have htc2 : TC u2 tp 0 (x :: R) := htc.fr2 f2 (fun d h1 h2 => ⟨by simp, by simp; omega⟩)
    have h62 : (gI u2 tp 6).toInt = (((x :: R).length : Nat) : Int) := by rw [f2.c ⟨by simp, by simp⟩]; exact h6
    simp only [ok_gd, true_and, t2]
    refine ok_call (c_findHefts hN hL2 hT h62 htc2 hw hlen) ?_
    rintro - u3 ⟨f3, hh⟩
    refine ok_ret.mpr ⟨(f.tr (f2.up2 (by simp) (by simp))).tr (f3.up (by simp) (by simp)), Or.inl ⟨rfl, x, R, htx, by rw [f3.i ⟨by simp, by simp⟩]; exact h62, htc2.fr2 f3 (fun d h1 h2 => ⟨by simp; omega, by simp⟩), hw, hlen, by rw [f3.i ⟨by simp, by simp⟩]; exact hm, hh⟩⟩
  unfold f_Tn_faultOf_l33
  refine itr_up (fun k q => q.1 = tp ∧ q.2.1 = a2 ∧ q.2.2.2.1.toInt = (k : Int) ∧ 1 ≤ k ∧ TF tp w q.2.2.2.2 ∧ CT q.2.2.2.2 tp t n ∧ c8 tp q.2.2.2.2 ∧ ∃ p : Nat, (gI q.2.2.2.2 tp 12).toInt = (p : Int) ∧ p ≤ n ∧ ((q.2.2.1 = 1 ∧ ∃ (x : Cl) (L : List Cl) (kk : Nat), (x :: L).length = k ∧ (gI q.2.2.2.2 tp 6).toInt = (k : Int) ∧ (gI q.2.2.2.2 tp 8).toInt = (kk : Int) ∧ kk ≤ p ∧ KC q.2.2.2.2 (tp + 2) (tp + 3) (tp + 4) (tp + 5) (tp + 6) cdz kk 0 (x :: L) ∧ (∀ y ∈ x :: L, WFx y) ∧ ∀ R b q, TL t n k p R b q → TX t n (x :: (L ++ R)) b q) ∨ (q.2.2.1 = 0 ∧ ∃ L, TX t n L false p))) 10 ?_ ?_ N 1 _ (by omega) ?_ (by omega)
  · rintro rec k ⟨b0, b1, a3, a4, u⟩ hk ⟨e0, e1, e2, k1, f, hct, hc8, p, hp, hpn, hq⟩ IH
    simp only at e0 e1 e2 f hct hc8 hp hq
    subst e0 e1
    have t0 := (lay_T hct.1 hT).1
    have e10 : (10 : Int32).toInt = 10 := rfl
    have e59 : (59 : Int32).toInt = 59 := rfl
    have hp1 : (a4 + 1).toInt = ((k + 1 : Nat) : Int) := ti_p1 e2 (by omega)
    show ok (f_Tn_faultOf_b33 N rec b0 b1 a3 a4 u) _
    unfold f_Tn_faultOf_b33
    refine ok_cdf (by rw [ti_le, e2, e10]; omega) ?_
    rcases hq with ⟨rfl, x, L, kk, hl, h6, h8, hkk, hkc, hwf, hK⟩ | ⟨rfl, L, htx⟩
    rotate_left 1
    · exact ok_cdt rfl (b80f u p L 0 f hct.1 hp hpn htx (Or.inl rfl))
    refine ok_cdf (by decide) ?_
    simp only [ok_gd, ok_bd, true_and, t0]
    rw [ok_cd]
    refine ⟨fun g => ?_, fun g => ?_⟩ <;> rw [ti_le, h2, hp] at g
    · have epn : p = n := by omega
      subst epn
      have htx := hK [] true p (Or.inl ⟨rfl, rfl, rfl⟩)
      rw [List.append_nil] at htx
      exact b80t u kk x L 1 f hct.1 hp htx (by decide) (by rw [h6, hl]) hkc (by omega) hwf (by omega)
    have hpn' : p ≠ n := by omega
    refine ok_call (c_takes (a1 := 59) hct hp hpn (by decide)) ?_
    rintro r2 u2 (⟨rfl, hpk, hin2, av2⟩ | ⟨rfl, hpk, rfl⟩) <;> rw [e59] at hpk
    rotate_left 1
    · refine ok_cdt rfl ?_
      rw [ok_bd]
      refine IH _ ⟨rfl, rfl, hp1, by omega, f, hct, hc8, p, hp, hpn, Or.inr ⟨rfl, x :: (L ++ []), hK [] false p (Or.inr ⟨hpn', rfl, Or.inr ⟨by omega, Or.inl ⟨hpk, rfl⟩⟩⟩)⟩⟩
    refine ok_cdf (by decide) ?_
    have hct2 := hct.cf av2.cf
    have t2 := (lay_T hct2.1 hT).1
    simp only [ok_gd, true_and, t2]
    refine ok_call (c_clause hN hct2 av2.2 (by omega) (by rw [av2.1.c ⟨by simp, by simp⟩]; exact h8) (by omega) (by rw [av2.1.c ⟨by simp, by simp⟩]; exact h6) hk) ?_
    rintro r3 u3 ⟨f3, c3, b3, p3, x3, cl3, pp3, pn3, hr3⟩
    have F3 : TF b0 w u3 := (f.tr (KF.tf av2.kf)).tr (KF.tf f3)
    have hct3 := hct2.kf f3
    rcases hr3 with ⟨rfl, rfl, g6, g8, gkk, gkc, grow, gcode, gwf⟩ | ⟨rfl, rfl⟩
    · refine ok_cdf (by decide) ?_
      rw [ok_bd]
      have eA : ∀ a j, a ≠ b0 → gI u2 a j = gI u a j := fun a j ha => av2.1.i ⟨by simp, by simp; omega⟩
      have hkc' : KC u3 (b0 + 2) (b0 + 3) (b0 + 4) (b0 + 5) (b0 + 6) cdz (kk + x3.2.2.length) 0 (x :: L) := KC.c (by omega) (x :: L) 0 (fun d j hd h1 h2 => by rw [grow d j hd (by omega), eA _ _ (by omega)]) (fun j hj => by rw [gcode j hj, eA _ _ (by omega)]) hkc
      refine IH _ ⟨rfl, rfl, hp1, by omega, F3, hct3, c3, p3, pp3, pn3, Or.inl ⟨rfl, x, L ++ [x3], kk + x3.2.2.length, ?_, g6, g8, gkk, ?_, ?_, ?_⟩⟩
      · rw [← hl]; simp
      · have := KC.snoc (x := x3) (x :: L) 0 hkc' (by rw [Nat.zero_add, hl]; exact gkc)
        exact this
      · intro y hy
        rcases List.mem_cons.mp hy with rfl | hy
        · exact hwf _ List.mem_cons_self
        · rcases List.mem_append.mp hy with hy | hy
          · exact hwf _ (List.mem_cons_of_mem _ hy)
          · rw [List.mem_singleton.mp hy]; exact gwf
      · intro R b q hTL
        rw [List.append_assoc]
        exact hK ([x3] ++ R) b q ⟨hpn', by omega, hpk, p3, ⟨cl3, pn3⟩, hTL⟩
    · refine ok_cdt rfl ?_
      rw [ok_bd]
      refine IH _ ⟨rfl, rfl, hp1, by omega, F3, hct3, c3, p3, pp3, pn3, Or.inr ⟨rfl, x :: (L ++ []), hK [] false p3 (Or.inr ⟨hpn', rfl, Or.inr ⟨by omega, Or.inr ⟨hpk, x3, cl3, pn3⟩⟩⟩)⟩⟩
  · rintro rec ⟨b0, b1, a3, a4, u⟩ ⟨e0, e1, e2, k1, f, hct, hc8, p, hp, hpn, hq⟩
    simp only at e0 e1 e2 f hct hc8 hp hq
    subst e0 e1
    have e10 : (10 : Int32).toInt = 10 := rfl
    show ok (f_Tn_faultOf_b33 N rec b0 b1 a3 a4 u) _
    unfold f_Tn_faultOf_b33
    refine ok_cdt (by rw [ti_le, e2, e10]; decide) ?_
    rcases hq with ⟨rfl, x, L, kk, hl, h6, h8, hkk, hkc, hwf, hK⟩ | ⟨rfl, L, htx⟩
    · by_cases epn : p = n
      · subst epn
        have htx := hK [] true p (Or.inl ⟨rfl, rfl, rfl⟩)
        rw [List.append_nil] at htx
        exact b80t u kk x L 1 f hct.1 hp htx (by decide) (by rw [h6, hl]) hkc (by omega) hwf (by omega)
      · exact b80f u p _ 1 f hct.1 hp hpn (hK [] false p (Or.inr ⟨epn, rfl, Or.inl ⟨rfl, rfl⟩⟩)) (Or.inr epn)
    · exact b80f u p L 0 f hct.1 hp hpn htx (Or.inl rfl)
  · have F1 : TF tp w u1 := F0.tr (KF.tf f1)
    have H1 := H0.kf f1
    refine ⟨rfl, rfl, rfl, Nat.le_refl _, F1, H1, c1, p1, pp1, pn1, ?_⟩
    rcases hr1 with ⟨rfl, rfl, g6, g8, gkk, gkc, -, -, gwf⟩ | ⟨rfl, rfl⟩
    · exact Or.inl ⟨rfl, x1, [], _, rfl, g6, g8, gkk, gkc, fun y hy => by rw [List.mem_singleton.mp hy]; exact gwf, fun R b q hTL => ⟨p1, ⟨cl1, pn1⟩, hTL⟩⟩
    · exact Or.inr ⟨rfl, [], rfl, x1, cl1, pn1⟩
end FAU
