/-! ===== a town's text: what a town holds, in the class =====  -/
section HEF
variable {N tp n i k c : Nat} {w u z : gW} {t : Nat → Int} {a1 : Int32} {L : List Cl}
theorem TC.fr2 {T : List Nat} {C : List (Nat × Nat)} (f : Fr T C w u) (h : ∀ d, 2 ≤ d → d ≤ 6 → oP T C (tp + d)) (q : TC w tp c L) : TC u tp c L := TC.c (fun d k h1 h2 => f.i (h d h1 h2)) L c q
set_option maxHeartbeats 1000000 in
theorem c_findMost (hN : 1000 ≤ N) (hL : Lay w) (hT : isT tp) (hn : (gI w tp 6).toInt = ((L.length : Nat) : Int)) (hc : TC w tp 0 L) (hl : L.length ≤ 10) : ok (f_Tn_findMost N tp w) (fun _ u => Fr [] [(tp, 1)] w u ∧ (gI u tp 1).toInt = mostF L) := by
  obtain ⟨t0, -, t2, t3, -, -, -, -, -, s2, s3, -, -, -, -⟩ := lay_T hL hT
  unfold f_Tn_findMost f_Tn_findMost_b0
  simp only [ok_gd, ok_bd, true_and, t0]
  unfold f_Tn_findMost_l7
  refine itr_li (β := Cl) (fun R q => q.1 = tp ∧ Fr [] [(tp, 1)] w q.2.2 ∧ ∃ j : Nat, q.2.1.toInt = (j : Int) ∧ j + R.length = L.length ∧ TC w tp j R ∧ ∃ m : Int, (gI q.2.2 tp 1).toInt = min 2 m ∧ mostL R m = mostL L 2) ?_ ?_ L N _ ?_ (by omega)
  · rintro rec x R ⟨b0, a1, u⟩ ⟨e0, f, j, e1, e2, ⟨x1, x2, -, tcR⟩, m, e3, e4⟩ IH
    simp only at e0 f e1 e3
    subst e0
    simp only [List.length_cons] at e2
    have hLu := f.lay hL
    obtain ⟨t0, -, t2, t3, -, -, -, -, -, s2, s3, -, -, -, -⟩ := lay_T hLu hT
    have h6 : gI u b0 6 = gI w b0 6 := f.c ⟨by simp, by simp⟩
    have e : ∀ d j, 1 ≤ d → gI u (b0 + d) j = gI w (b0 + d) j := fun d j hd => f.i ⟨by simp, by simp; omega⟩
    have n1 := nat_of e1
    have g1 := ix_of (m := 10) e1 (by omega)
    rw [n1] at g1
    have hp1 : (a1 + 1).toInt = ((j + 1 : Nat) : Int) := ti_p1 e1 (by omega)
    show ok (f_Tn_findMost_b7 N rec b0 a1 u) _
    unfold f_Tn_findMost_b7
    simp only [ok_gd, ok_bd, true_and, t0]
    refine ok_cdf (by rw [ti_le, h6, hn, e1]; omega) ?_
    simp only [ok_rr, t2]
    refine ⟨_, rfl, ?_⟩
    simp only [ok_gd, ok_bd, true_and, s2, n1, g1, not_false_eq_true]
    rw [ok_cd]
    refine ⟨fun g => ?_, fun g => ?_⟩ <;> rw [ti_eq, e 2 _ (by decide), x1, ti_2] at g
    · simp only [ok_rr, t3]
      refine ⟨_, rfl, ?_⟩
      simp only [ok_gd, ok_bd, true_and, s3, n1, g1, not_false_eq_true]
      refine IH _ ⟨rfl, Fr_sI f (by simp), j + 1, hp1, by omega, tcR, x.2.1, ?_, by rw [← e4]; simp only [mostL]; rw [if_pos g]⟩
      show (gI (sI u b0 1 _) b0 1).toInt = _
      rw [gI_eq, ti_min, ti_2, e 3 _ (by decide), x2]
      omega
    · rw [ok_bd]
      exact IH _ ⟨rfl, f, j + 1, hp1, by omega, tcR, m, e3, by rw [← e4]; simp only [mostL]; rw [if_neg g]⟩
  · rintro rec ⟨b0, a1, u⟩ ⟨e0, f, j, e1, e2, -, m, e3, e4⟩
    simp only at e0 f e1 e3
    subst e0
    simp only [List.length_nil] at e2
    have t0 := (lay_T (f.lay hL) hT).1
    have h6 : gI u b0 6 = gI w b0 6 := f.c ⟨by simp, by simp⟩
    show ok (f_Tn_findMost_b7 N rec b0 a1 u) _
    unfold f_Tn_findMost_b7
    simp only [ok_gd, ok_bd, true_and, t0]
    refine ok_cdt (by rw [ti_le, h6, hn, e1]; omega) (ok_ret.mpr ⟨f, ?_⟩)
    simp only [mostL] at e4
    rw [e3, e4]; rfl
  · exact ⟨rfl, Fr_sI Fr.rf (by simp), 0, rfl, by omega, hc, 2, by rw [gI_eq]; rfl, rfl⟩
set_option maxHeartbeats 1000000 in
theorem c_hefts39 (hN : 1000 ≤ N) (hL : Lay w) (hT : isT tp) (hn : (gI w tp 6).toInt = ((L.length : Nat) : Int)) (hc : TC w tp 0 L) (hw : WF L) (hl : L.length ≤ 10) (ha : a1 = 0 ↔ hasL 0 L = false) : ok (f_Tn_findHefts_l39 N tp a1 0 w) (fun _ u => Fr [tp + 1, tp + 7] [] w u ∧ ∀ s, s < 6 → (gI u (tp + 1) s).toInt = heftF L s) := by
  unfold f_Tn_findHefts_l39
  refine itr_up (fun s q => q.1 = tp ∧ q.2.1 = a1 ∧ q.2.2.1.toInt = (s : Int) ∧ Fr [tp + 1, tp + 7] [] w q.2.2.2 ∧ ∀ r, r < s → (gI q.2.2.2 (tp + 1) r).toInt = heftF L r) 6 ?_ ?_ N 0 _ (by omega) ?_ (by omega)
  · rintro rec s ⟨b0, b1, a2, u⟩ hs ⟨e0, e1, e2, f, e3⟩ IH
    simp only at e0 e1 e2 f e3
    subst e0 e1
    have hLu := f.lay hL
    have t0 := (lay_T hLu hT).1
    have n1 := nat_of e2
    have g1 := ix_of (m := 6) e2 hs
    rw [n1] at g1
    show ok (f_Tn_findHefts_b39 N rec b0 b1 a2 u) _
    unfold f_Tn_findHefts_b39
    refine ok_cdf (by rw [ti_le, e2, ti_6]; omega) ?_
    simp only [ok_gd, true_and, t0]
    refine ok_call (c_factsOf hN hLu hT e2 hs) ?_
    rintro - u2 ⟨f2, hf⟩
    have f12 : Fr [b0 + 1, b0 + 7] [] w u2 := f.tr (f2.up (by simp) (by simp))
    have hL2 := f12.lay hL
    obtain ⟨t0, t1, -, -, -, -, -, -, s1, -, -, -, -, -, -⟩ := lay_T hL2 hT
    have b70 : ∀ z0 : Int32, z0.toInt = heftF L s → ok (f_Tn_findHefts_b70 N rec b0 b1 a2 z0 a2 (b0 + 1) u2) (fun _ u => Fr [b0 + 1, b0 + 7] [] w u ∧ ∀ s, s < 6 → (gI u (b0 + 1) s).toInt = heftF L s) := by
      intro z0 hz
      unfold f_Tn_findHefts_b70
      simp only [ok_gd, ok_bd, true_and, s1, n1, g1, not_false_eq_true]
      refine IH _ ⟨rfl, rfl, ti_p1 e2 (by omega), Fr_sI f12 (by simp), fun r hr => ?_⟩
      show (gI (sI u2 (b0 + 1) s z0) (b0 + 1) r).toInt = _
      by_cases e : r = s
      · rw [e, gI_eq]; exact hz
      · rw [gI_nk e, f2.i ⟨by simp, by simp⟩]; exact e3 r (by omega)
    simp only [ok_gd, ok_rr, true_and, t0, t1]
    refine ⟨_, rfl, ?_⟩
    rw [ok_cd]
    refine ⟨fun g => ?_, fun g => ?_⟩
    · rw [ok_bd]
      refine b70 _ ?_
      unfold heftF
      rw [if_neg (by rw [ha.mp g]; decide), ti_add] <;> rw [ti_2, e2] <;> omega
    · refine ok_call (c_together (a1 := 0) (ft := fct s 0 0 0 0) hN hL2 hT (by decide) (by rw [f12.i ⟨by simp, by simp⟩]; exact hn) (hc.fr2 f12 (fun d h1 h2 => ⟨by simp; omega, by simp⟩)) hw hl hf) ?_
      rintro r3 u3 ⟨rfl, hr3⟩
      refine b70 r3 ?_
      have hh : hasL 0 L = true := by
        cases e : hasL 0 L
        · exact absurd (ha.mpr e) g
        · rfl
      rw [hr3]; unfold heftF; rw [if_pos hh]; rfl
  · rintro rec ⟨b0, b1, a2, u⟩ ⟨e0, e1, e2, f, e3⟩
    simp only at e0 e1 e2 f e3
    subst e0 e1
    show ok (f_Tn_findHefts_b39 N rec b0 b1 a2 u) _
    unfold f_Tn_findHefts_b39
    exact ok_cdt (by rw [ti_le, e2, ti_6]; decide) (ok_ret.mpr ⟨f, e3⟩)
  · exact ⟨rfl, rfl, rfl, Fr.rf, fun r hr => by omega⟩
set_option maxHeartbeats 1000000 in
theorem c_findHefts (hN : 1000 ≤ N) (hL : Lay w) (hT : isT tp) (hn : (gI w tp 6).toInt = ((L.length : Nat) : Int)) (hc : TC w tp 0 L) (hw : WF L) (hl : L.length ≤ 10) : ok (f_Tn_findHefts N tp w) (fun _ u => Fr [tp + 1, tp + 7] [] w u ∧ ∀ s, s < 6 → (gI u (tp + 1) s).toInt = heftF L s) := by
  obtain ⟨t0, -, t2, -, -, -, -, -, -, s2, -, -, -, -, -⟩ := lay_T hL hT
  unfold f_Tn_findHefts f_Tn_findHefts_b0 f_Tn_findHefts_l4
  refine itr_li (β := Cl) (fun R q => q.1 = tp ∧ q.2.2.2 = w ∧ ∃ j : Nat, q.2.2.1.toInt = (j : Int) ∧ j + R.length = L.length ∧ TC w tp j R ∧ ((q.2.1 = 0 ∧ hasL 0 R = hasL 0 L) ∨ (q.2.1 = 1 ∧ hasL 0 L = true))) ?_ ?_ L N _ ?_ (by omega)
  · rintro rec x R ⟨b0, a1, a2, u⟩ ⟨e0, e1, j, e2, e3, ⟨x1, -, -, tcR⟩, e4⟩ IH
    simp only at e0 e1 e2 e4
    subst e0 e1
    simp only [List.length_cons] at e3
    have n1 := nat_of e2
    have g1 := ix_of (m := 10) e2 (by omega)
    rw [n1] at g1
    have hp1 : (a2 + 1).toInt = ((j + 1 : Nat) : Int) := ti_p1 e2 (by omega)
    show ok (f_Tn_findHefts_b4 N rec b0 a1 a2 u) _
    unfold f_Tn_findHefts_b4
    simp only [ok_gd, ok_bd, true_and, t0]
    refine ok_cdf (by rw [ti_le, hn, e2]; omega) ?_
    rcases e4 with ⟨rfl, e4⟩ | ⟨rfl, e4⟩
    · refine ok_cdt rfl ?_
      simp only [ok_rr, t2]
      refine ⟨_, rfl, ?_⟩
      simp only [ok_gd, ok_bd, true_and, s2, n1, g1, not_false_eq_true]
      simp only [hasL] at e4
      rw [ok_cd]
      refine ⟨fun g => ?_, fun g => ?_⟩ <;> rw [ti_eq, x1, ti_0] at g
      · refine IH _ ⟨rfl, rfl, j + 1, hp1, by omega, tcR, Or.inr ⟨rfl, ?_⟩⟩
        rw [← e4, decide_eq_true g]; rfl
      · refine IH _ ⟨rfl, rfl, j + 1, hp1, by omega, tcR, Or.inl ⟨rfl, ?_⟩⟩
        rw [← e4, decide_eq_false g]; rfl
    · refine ok_cdf (by decide) ?_
      rw [ok_bd]
      exact IH _ ⟨rfl, rfl, j + 1, hp1, by omega, tcR, Or.inr ⟨rfl, e4⟩⟩
  · rintro rec ⟨b0, a1, a2, u⟩ ⟨e0, e1, j, e2, e3, -, e4⟩
    simp only at e0 e1 e2 e4
    subst e0 e1
    simp only [List.length_nil] at e3
    show ok (f_Tn_findHefts_b4 N rec b0 a1 a2 u) _
    unfold f_Tn_findHefts_b4
    simp only [ok_gd, ok_bd, true_and, t0]
    refine ok_cdt (by rw [ti_le, hn, e2]; omega) (c_hefts39 hN hL hT hn hc hw hl ?_)
    rcases e4 with ⟨rfl, e4⟩ | ⟨rfl, e4⟩
    · exact ⟨fun _ => by rw [← e4]; rfl, fun _ => rfl⟩
    · exact ⟨fun z => absurd z (by decide), fun z => by rw [e4] at z; cases z⟩
  · exact ⟨rfl, rfl, 0, rfl, by omega, hc, Or.inl ⟨rfl, rfl⟩⟩
end HEF
