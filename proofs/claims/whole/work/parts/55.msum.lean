/-! ===== hefts, what is kept: the model's sums ===== -/
def MC (w : gW) : Nat → List Cl → Prop
  | _, [] => True
  | c, x :: L => (gI w 143 c).toInt = x.1 ∧ (gI w 144 c).toInt = x.2.1 ∧ (x.1 ≠ 2 → ∃ a : Nat, (gI w 145 c).toInt = (a : Int) ∧ (gI w 146 c).toInt = ((a + x.2.2.length : Nat) : Int) ∧ a + x.2.2.length ≤ 600 ∧ rgn w 147 (fun z => z) a x.2.2) ∧ MC w (c + 1) L
theorem MC.c {w u : gW} (h : ∀ d k, 143 ≤ d → d ≤ 147 → gI u d k = gI w d k) : ∀ (L : List Cl) (c : Nat), MC w c L → MC u c L := by
  intro L
  induction L with
  | nil => intro c _; trivial
  | cons x L ih =>
    rintro c ⟨h1, h2, h3, h4⟩
    refine ⟨by rw [h 143 _ (by omega) (by omega)]; exact h1, by rw [h 144 _ (by omega) (by omega)]; exact h2, fun g => ?_, ih (c + 1) h4⟩
    obtain ⟨a, g1, g2, g3, g4⟩ := h3 g
    exact ⟨a, by rw [h 145 _ (by omega) (by omega)]; exact g1, by rw [h 146 _ (by omega) (by omega)]; exact g2, g3, rgn_c _ _ (fun k _ _ => h 147 k (by omega) (by omega)) g4⟩
/-- the town that holds, in the model -/
def MV (w : gW) (b : Nat) (L : List Cl) : Prop := L.length ≤ 10 ∧ b + L.length ≤ 60 ∧ WF L ∧ MC w b L ∧ (((gI w 133 9).toInt = -1 ∧ b = 0 ∧ L = []) ∨ ∃ f : Nat, f < 6 ∧ (gI w 133 9).toInt = (f : Int) ∧ b = 10 * f ∧ (gI w 142 f).toInt = (L.length : Int))
theorem MV.c {w u : gW} {b : Nat} {L : List Cl} (h : ∀ d k, 142 ≤ d → d ≤ 147 → gI u d k = gI w d k) (h9 : gI u 133 9 = gI w 133 9) (q : MV w b L) : MV u b L := by
  obtain ⟨h1, h2, h3, h4, h5⟩ := q
  refine ⟨h1, h2, h3, MC.c (fun d k a c => h d k (by omega) c) _ _ h4, ?_⟩
  rw [h9]
  rcases h5 with h5 | ⟨f, g1, g2, g3, g4⟩
  · exact Or.inl h5
  · exact Or.inr ⟨f, g1, g2, g3, by rw [h 142 _ (by omega) (by omega)]; exact g4⟩
theorem MV.fr {w u : gW} {b : Nat} {L : List Cl} {T : List Nat} {C : List (Nat × Nat)} (f : Fr T C w u) (hT : ∀ d, 142 ≤ d → d ≤ 147 → oP T C d) (hC : oC T C 133 9) (q : MV w b L) : MV u b L := q.c (fun d k h1 h2 => f.i (hT d h1 h2)) (f.c hC)
set_option maxHeartbeats 1000000 in
theorem c_begin {N b : Nat} {w : gW} {L : List Cl} (hL : Lay w) (hv : MV w b L) : ok (f_M_begin N 133 w) (fun r u => u = w ∧ r.toInt = (b : Int)) := by
  have hm := lay_M hL
  obtain ⟨h1, h2, h3, h4, h5⟩ := hv
  rcases h5 with ⟨g1, g2, g3⟩ | ⟨f, g1, g2, g3, g4⟩
  · have c0 : ¬ (0 : Int) ≤ -1 := by omega
    simp only [f_M_begin, f_M_begin_b0, ok_kl, ok_cd, ok_gd, ok_bd, ok_rr1, ok_nr0, ok_nr1, ok_ret, sh_sI, gR_sI, sh_sR, sh_sL, gI_sL, gR_sL, gL_sI, gL_sR, sh_cI, gR_cI, sh_cL, gR_cL, gI_cL, gR_ne, gR_nk, gR_eq, gI_sR, gI_eq, gI_ne, gI_nk, ti_lt, ti_le, ti_eq, ti_nat, ti_0, ti_1, ti_2, ti_3, ti_4, ti_5, ti_6, ti_7, ti_8, ti_9, ti_10, ti_60, ti_99, ti_199, ti_100, ti_19, ti_20, ti_127, ti_n1, true_and, and_true, false_and, and_false, not_false_eq_true, not_true_eq_false, false_implies, true_implies, Int.reduceEq, Int.reduceLT, Int.reduceLE, Int.reduceNeg, or_self, or_true, true_or, or_false, false_or, implies_true, Int.toNat_natCast, Int.reduceToNat, hm, g1, c0, g2]; rfl
  · have c0 : (0 : Int) ≤ (f : Int) := by omega
    have m : (10 * gI w 133 9).toInt = (b : Int) := by rw [ti_mul] <;> rw [ti_10, g2] <;> omega
    simp only [f_M_begin, f_M_begin_b0, ok_kl, ok_cd, ok_gd, ok_bd, ok_rr1, ok_nr0, ok_nr1, ok_ret, sh_sI, gR_sI, sh_sR, sh_sL, gI_sL, gR_sL, gL_sI, gL_sR, sh_cI, gR_cI, sh_cL, gR_cL, gI_cL, gR_ne, gR_nk, gR_eq, gI_sR, gI_eq, gI_ne, gI_nk, ti_lt, ti_le, ti_eq, ti_nat, ti_0, ti_1, ti_2, ti_3, ti_4, ti_5, ti_6, ti_7, ti_8, ti_9, ti_10, ti_60, ti_99, ti_199, ti_100, ti_19, ti_20, ti_127, ti_n1, true_and, and_true, false_and, and_false, not_false_eq_true, not_true_eq_false, false_implies, true_implies, Int.reduceEq, Int.reduceLT, Int.reduceLE, Int.reduceNeg, or_self, or_true, true_or, or_false, false_or, implies_true, Int.toNat_natCast, Int.reduceToNat, hm, g2, c0, m]
set_option maxHeartbeats 1000000 in
theorem c_behindText {N b : Nat} {w : gW} {L : List Cl} (hL : Lay w) (hv : MV w b L) : ok (f_M_behindText N 133 w) (fun r u => u = w ∧ r.toInt = ((b + L.length : Nat) : Int)) := by
  have hm := lay_M hL
  obtain ⟨h1, h2, h3, h4, h5⟩ := hv
  rcases h5 with ⟨g1, g2, g3⟩ | ⟨f, g1, g2, g3, g4⟩
  · have c0 : ¬ (0 : Int) ≤ -1 := by omega
    subst g2 g3
    simp only [f_M_behindText, f_M_behindText_b0, ok_kl, ok_cd, ok_gd, ok_bd, ok_rr1, ok_nr0, ok_nr1, ok_ret, sh_sI, gR_sI, sh_sR, sh_sL, gI_sL, gR_sL, gL_sI, gL_sR, sh_cI, gR_cI, sh_cL, gR_cL, gI_cL, gR_ne, gR_nk, gR_eq, gI_sR, gI_eq, gI_ne, gI_nk, ti_lt, ti_le, ti_eq, ti_nat, ti_0, ti_1, ti_2, ti_3, ti_4, ti_5, ti_6, ti_7, ti_8, ti_9, ti_10, ti_60, ti_99, ti_199, ti_100, ti_19, ti_20, ti_127, ti_n1, true_and, and_true, false_and, and_false, not_false_eq_true, not_true_eq_false, false_implies, true_implies, Int.reduceEq, Int.reduceLT, Int.reduceLE, Int.reduceNeg, or_self, or_true, true_or, or_false, false_or, implies_true, Int.toNat_natCast, Int.reduceToNat, hm, g1, c0]; rfl
  · have c0 : (0 : Int) ≤ (f : Int) := by omega
    have c1 : ¬ (f : Int) < 0 := by omega
    have c2 : ¬ 6 ≤ f := by omega
    have m : (10 * gI w 133 9).toInt = (b : Int) := by rw [ti_mul] <;> rw [ti_10, g2] <;> omega
    have m2 : (10 * gI w 133 9 + gI w 142 f).toInt = ((b + L.length : Nat) : Int) := by rw [ti_add] <;> rw [m, g4] <;> omega
    simp only [f_M_behindText, f_M_behindText_b0, ok_kl, ok_cd, ok_gd, ok_bd, ok_rr1, ok_nr0, ok_nr1, ok_ret, sh_sI, gR_sI, sh_sR, sh_sL, gI_sL, gR_sL, gL_sI, gL_sR, sh_cI, gR_cI, sh_cL, gR_cL, gI_cL, gR_ne, gR_nk, gR_eq, gI_sR, gI_eq, gI_ne, gI_nk, ti_lt, ti_le, ti_eq, ti_nat, ti_0, ti_1, ti_2, ti_3, ti_4, ti_5, ti_6, ti_7, ti_8, ti_9, ti_10, ti_60, ti_99, ti_199, ti_100, ti_19, ti_20, ti_127, ti_n1, true_and, and_true, false_and, and_false, not_false_eq_true, not_true_eq_false, false_implies, true_implies, Int.reduceEq, Int.reduceLT, Int.reduceLE, Int.reduceNeg, or_self, or_true, true_or, or_false, false_or, implies_true, Int.toNat_natCast, Int.reduceToNat, hm, g2, c0, c1, c2, m2]
def mostL : List Cl → Int → Int
  | [], m => m
  | x :: L, m => mostL L (if x.1 = 2 then x.2.1 else m)
def mostF (L : List Cl) : Int := min 2 (mostL L 2)
theorem mostL_in : ∀ (L : List Cl) (m : Int), WF L → 0 ≤ m → 0 ≤ mostL L m := by
  intro L
  induction L with
  | nil => intro m _ h; exact h
  | cons x L ih =>
    intro m h h0
    have := h x List.mem_cons_self
    refine ih _ (fun y hy => h y (List.mem_cons_of_mem _ hy)) ?_
    split <;> omega
set_option maxHeartbeats 1000000 in
theorem c_mostNow {N b : Nat} {w : gW} {L : List Cl} (hN : 1000 ≤ N) (hL : Lay w) (hv : MV w b L) : ok (f_M_mostNow N 133 w) (fun r u => u = w ∧ r.toInt = mostF L) := by
  have hm := lay_M hL
  have hv' := hv
  obtain ⟨h1, h2, h3, h4, h5⟩ := hv'
  simp only [f_M_mostNow, f_M_mostNow_b0, ok_gd, hm, true_and]
  refine ok_call (c_begin hL hv) ?_
  rintro r u ⟨rfl, hr⟩
  unfold f_M_mostNow_l7
  refine itr_li (β := Cl) (fun R q => q.1 = 133 ∧ q.2.2.2 = u ∧ ∃ i : Nat, q.2.2.1.toInt = (i : Int) ∧ i + R.length = b + L.length ∧ MC u i R ∧ mostL R q.2.1.toInt = mostL L 2) ?_ ?_ L N _ ?_ (by omega)
  · rintro rec x R ⟨q0, a1, a2, v⟩ ⟨e0, e1, i, e2, e3, e4, e5⟩ IH
    simp only at e0 e1 e2 e5
    subst e0 e1
    simp only [List.length_cons] at e3
    obtain ⟨x1, x2, -, x4⟩ := e4
    have c0 : ¬ ((b + L.length : Nat) : Int) ≤ (i : Int) := by omega
    have c1 : ¬ (i : Int) < 0 := by omega
    have c2 : ¬ 60 ≤ i := by omega
    have hi9 : i < 2147483647 := by omega
    simp only [f_M_mostNow_b7, ok_gd, hm, true_and]
    refine ok_call (c_behindText hL hv) ?_
    rintro r v ⟨rfl, hr⟩
    simp only [mostL] at e5
    by_cases k : x.1 = 2
    · rw [if_pos k] at e5
      simp only [ok_kl, ok_cd, ok_gd, ok_bd, ok_rr1, ok_nr0, ok_nr1, ok_ret, sh_sI, gR_sI, sh_sR, sh_sL, gI_sL, gR_sL, gL_sI, gL_sR, sh_cI, gR_cI, sh_cL, gR_cL, gI_cL, gR_ne, gR_nk, gR_eq, gI_sR, gI_eq, gI_ne, gI_nk, ti_lt, ti_le, ti_eq, ti_nat, ti_0, ti_1, ti_2, ti_3, ti_4, ti_5, ti_6, ti_7, ti_8, ti_9, ti_10, ti_60, ti_99, ti_199, ti_100, ti_19, ti_20, ti_127, ti_n1, true_and, and_true, false_and, and_false, not_false_eq_true, not_true_eq_false, false_implies, true_implies, Int.reduceEq, Int.reduceLT, Int.reduceLE, Int.reduceNeg, or_self, or_true, true_or, or_false, false_or, implies_true, Int.toNat_natCast, Int.reduceToNat, hm, hr, e2, c0, c1, c2, x1, k]
      refine IH _ ?_; exact ⟨rfl, rfl, i + 1, ti_p1 e2 hi9, by omega, x4, by rw [← e5]; simp only; rw [x2]⟩
    · rw [if_neg k] at e5
      simp only [ok_kl, ok_cd, ok_gd, ok_bd, ok_rr1, ok_nr0, ok_nr1, ok_ret, sh_sI, gR_sI, sh_sR, sh_sL, gI_sL, gR_sL, gL_sI, gL_sR, sh_cI, gR_cI, sh_cL, gR_cL, gI_cL, gR_ne, gR_nk, gR_eq, gI_sR, gI_eq, gI_ne, gI_nk, ti_lt, ti_le, ti_eq, ti_nat, ti_0, ti_1, ti_2, ti_3, ti_4, ti_5, ti_6, ti_7, ti_8, ti_9, ti_10, ti_60, ti_99, ti_199, ti_100, ti_19, ti_20, ti_127, ti_n1, true_and, and_true, false_and, and_false, not_false_eq_true, not_true_eq_false, false_implies, true_implies, Int.reduceEq, Int.reduceLT, Int.reduceLE, Int.reduceNeg, or_self, or_true, true_or, or_false, false_or, implies_true, Int.toNat_natCast, Int.reduceToNat, hm, hr, e2, c0, c1, c2, x1, k]
      refine IH _ ?_; exact ⟨rfl, rfl, i + 1, ti_p1 e2 hi9, by omega, x4, e5⟩
  · rintro rec ⟨q0, a1, a2, v⟩ ⟨e0, e1, i, e2, e3, e4, e5⟩
    simp only at e0 e1 e2 e5
    subst e0 e1
    simp only [List.length_nil] at e3
    have c0 : ((b + L.length : Nat) : Int) ≤ (i : Int) := by omega
    simp only [f_M_mostNow_b7, ok_gd, hm, true_and]
    refine ok_call (c_behindText hL hv) ?_
    rintro r v ⟨rfl, hr⟩
    simp only [mostL] at e5
    unfold mostF
    rw [← e5]
    by_cases k : a1.toInt ≤ 2
    · simp only [ok_kl, ok_cd, ok_gd, ok_bd, ok_rr1, ok_nr0, ok_nr1, ok_ret, sh_sI, gR_sI, sh_sR, sh_sL, gI_sL, gR_sL, gL_sI, gL_sR, sh_cI, gR_cI, sh_cL, gR_cL, gI_cL, gR_ne, gR_nk, gR_eq, gI_sR, gI_eq, gI_ne, gI_nk, ti_lt, ti_le, ti_eq, ti_nat, ti_0, ti_1, ti_2, ti_3, ti_4, ti_5, ti_6, ti_7, ti_8, ti_9, ti_10, ti_60, ti_99, ti_199, ti_100, ti_19, ti_20, ti_127, ti_n1, true_and, and_true, false_and, and_false, not_false_eq_true, not_true_eq_false, false_implies, true_implies, Int.reduceEq, Int.reduceLT, Int.reduceLE, Int.reduceNeg, or_self, or_true, true_or, or_false, false_or, implies_true, Int.toNat_natCast, Int.reduceToNat, hm, hr, e2, c0, k]; omega
    · simp only [ok_kl, ok_cd, ok_gd, ok_bd, ok_rr1, ok_nr0, ok_nr1, ok_ret, sh_sI, gR_sI, sh_sR, sh_sL, gI_sL, gR_sL, gL_sI, gL_sR, sh_cI, gR_cI, sh_cL, gR_cL, gI_cL, gR_ne, gR_nk, gR_eq, gI_sR, gI_eq, gI_ne, gI_nk, ti_lt, ti_le, ti_eq, ti_nat, ti_0, ti_1, ti_2, ti_3, ti_4, ti_5, ti_6, ti_7, ti_8, ti_9, ti_10, ti_60, ti_99, ti_199, ti_100, ti_19, ti_20, ti_127, ti_n1, true_and, and_true, false_and, and_false, not_false_eq_true, not_true_eq_false, false_implies, true_implies, Int.reduceEq, Int.reduceLT, Int.reduceLE, Int.reduceNeg, or_self, or_true, true_or, or_false, false_or, implies_true, Int.toNat_natCast, Int.reduceToNat, hm, hr, e2, c0, k]; omega
  · exact ⟨rfl, rfl, b, hr, rfl, h4, rfl⟩
def hasL (k : Int) : List Cl → Bool
  | [] => false
  | x :: L => decide (x.1 = k) || hasL k L
theorem togL_no {k : Int} {ft : Nat → Int} : ∀ (L : List Cl), hasL k L = false → togL k ft L = 0 := by
  intro L
  induction L with
  | nil => intro _; rfl
  | cons x L ih =>
    intro h
    simp only [hasL, Bool.or_eq_false_iff, decide_eq_false_iff_not] at h
    simp only [togL]
    rw [if_neg (fun z => h.1 z.1), ih h.2]; rfl
set_option maxHeartbeats 1000000 in
theorem c_sumOf {N b s : Nat} {w : gW} {L : List Cl} {a1 a2 a3 a4 : Int32} (hN : 1000 ≤ N) (hL : Lay w) (hv : MV w b L) (hwr : wrM w) (hpd : pdM w) (h1 : a1.toInt ≠ 2) (h2 : a2.toInt = (s : Int)) (hs : s < 6) (h3 : a3.toInt = -1 ∨ 0 ≤ a3.toInt ∧ a3.toInt < 4) :
    ok (f_M_sumOf N 133 a1 a2 a3 a4 w) (fun r u => Fr [150] [] w u ∧ r.toInt = if hasL a1.toInt L = true then togL a1.toInt (mft w s a3.toInt) L else a4.toInt) := by
  have hm := lay_M hL
  have hv' := hv
  obtain ⟨g1, g2, g3, g4, g5⟩ := hv'
  simp only [f_M_sumOf, f_M_sumOf_b0, ok_gd, hm, true_and]
  refine ok_call (c_begin hL hv) ?_
  rintro r u ⟨rfl, hr⟩
  unfold f_M_sumOf_l12
  refine itr_li (β := Cl) (fun R q => q.1 = 133 ∧ q.2.1 = a1 ∧ q.2.2.1 = a2 ∧ q.2.2.2.1 = a3 ∧ q.2.2.2.2.1 = a4 ∧ Fr [150] [] u q.2.2.2.2.2.2.2.2 ∧ ∃ i : Nat, q.2.2.2.2.2.2.2.1.toInt = (i : Int) ∧ i + R.length = b + L.length ∧ b ≤ i ∧ MC u i R ∧ WF R ∧ 0 ≤ q.2.2.2.2.2.1.toInt ∧ q.2.2.2.2.2.1.toInt ≤ 99 * ((i - b : Nat) : Int) ∧ q.2.2.2.2.2.1.toInt + togL a1.toInt (mft u s a3.toInt) R = togL a1.toInt (mft u s a3.toInt) L ∧ (q.2.2.2.2.2.2.1.toInt = 0 ∨ q.2.2.2.2.2.2.1.toInt = 1) ∧ hasL a1.toInt L = (decide (q.2.2.2.2.2.2.1.toInt = 1) || hasL a1.toInt R)) ?_ ?_ L N _ ?_ (by omega)
  · rintro rec x R ⟨q0, q1, q2, q3, q4, a5, a6, a7, v⟩ ⟨e0, e1, e2, e3, e4, f, i, e5, e6, e7, e8, e9, e10, e11, e12, e13, e14⟩ IH
    simp only at e0 e1 e2 e3 e4 f e5 e10 e11 e12 e13 e14
    subst e0 e1 e2 e3 e4
    simp only [List.length_cons] at e6
    have hLv := f.lay hL
    have hm := lay_M hLv
    have hvv := hv.fr f (fun d h1 h2 => ⟨by simp; omega, by simp⟩) (by decide)
    obtain ⟨x1, x2, x3, x4⟩ := e8
    obtain ⟨y1, y2, y3, y4, y5⟩ := e9 x List.mem_cons_self
    have wr : WF R := fun y hy => e9 y (List.mem_cons_of_mem _ hy)
    have c0 : ¬ ((b + L.length : Nat) : Int) ≤ (i : Int) := by omega
    have c1 : ¬ (i : Int) < 0 := by omega
    have c2 : ¬ 60 ≤ i := by omega
    have hi9 : i < 2147483647 := by omega
    have k1 : gI v 143 i = gI u 143 i := f.i ⟨by decide, by simp⟩
    simp only [togL] at e12
    simp only [hasL] at e14
    simp only [f_M_sumOf_b12, ok_gd, hm, true_and]
    refine ok_call (c_behindText hLv hvv) ?_
    rintro r v' ⟨rfl, hr'⟩
    by_cases k : x.1 = q1.toInt
    · obtain ⟨a, z1, z2, z3, z4⟩ := x3 (by rw [k]; exact h1)
      clear x3
      have k2 : gI v' 145 i = gI u 145 i := f.i ⟨by decide, by simp⟩
      have k3 : gI v' 146 i = gI u 146 i := f.i ⟨by decide, by simp⟩
      have hh := c_mholds (N := N) (a1 := a7) hN hLv (hwr.c f ⟨by decide, by simp⟩) (hpd.c f ⟨by decide, by simp⟩) e5 (by omega) h2 hs h3 (by rw [k2]; exact z1) (by rw [k3]; exact z2) z3 (rgn_c _ _ (fun j _ _ => f.i ⟨by decide, by simp⟩) z4) (y5 (by rw [k]; exact h1))
      rw [fct_in f] at hh
      simp only [ok_kl, ok_cd, ok_gd, ok_bd, ok_rr1, ok_nr0, ok_nr1, ok_ret, sh_sI, gR_sI, sh_sR, sh_sL, gI_sL, gR_sL, gL_sI, gL_sR, sh_cI, gR_cI, sh_cL, gR_cL, gI_cL, gR_ne, gR_nk, gR_eq, gI_sR, gI_eq, gI_ne, gI_nk, ti_lt, ti_le, ti_eq, ti_nat, ti_0, ti_1, ti_2, ti_3, ti_4, ti_5, ti_6, ti_7, ti_8, ti_9, ti_10, ti_60, ti_99, ti_199, ti_100, ti_19, ti_20, ti_127, ti_n1, true_and, and_true, false_and, and_false, not_false_eq_true, not_true_eq_false, false_implies, true_implies, Int.reduceEq, Int.reduceLT, Int.reduceLE, Int.reduceNeg, or_self, or_true, true_or, or_false, false_or, implies_true, Int.toNat_natCast, Int.reduceToNat, hm, hr', e5, c0, c1, c2, k1, x1, k]
      refine hh.mono ?_
      rintro r v ⟨f2, hr⟩
      have f3 := f.tr f2
      have hm := lay_M (f3.lay hL)
      have k4 : gI v 144 i = gI u 144 i := f3.i ⟨by decide, by simp⟩
      have hs1 : hasL q1.toInt L = (decide ((1 : Int32).toInt = 1) || hasL q1.toInt R) := by rw [e14, k]; simp [ti_1]
      by_cases c : hdb (evs (mft u s q3.toInt) x.2.2 []) = true
      · have hr1 := bz_1 hr c
        have z10 : ¬ (1 : Int) = 0 := by omega
        rw [if_pos ⟨k, c⟩] at e12
        have n2 : (a5 + gI u 144 i).toInt = a5.toInt + x.2.1 := by rw [ti_add] <;> rw [x2] <;> omega
        simp only [ok_kl, ok_cd, ok_gd, ok_bd, ok_rr1, ok_nr0, ok_nr1, ok_ret, sh_sI, gR_sI, sh_sR, sh_sL, gI_sL, gR_sL, gL_sI, gL_sR, sh_cI, gR_cI, sh_cL, gR_cL, gI_cL, gR_ne, gR_nk, gR_eq, gI_sR, gI_eq, gI_ne, gI_nk, ti_lt, ti_le, ti_eq, ti_nat, ti_0, ti_1, ti_2, ti_3, ti_4, ti_5, ti_6, ti_7, ti_8, ti_9, ti_10, ti_60, ti_99, ti_199, ti_100, ti_19, ti_20, ti_127, ti_n1, true_and, and_true, false_and, and_false, not_false_eq_true, not_true_eq_false, false_implies, true_implies, Int.reduceEq, Int.reduceLT, Int.reduceLE, Int.reduceNeg, or_self, or_true, true_or, or_false, false_or, implies_true, Int.toNat_natCast, Int.reduceToNat, hm, e5, c1, c2, k4, hr1, z10]
        refine IH _ ?_; exact ⟨rfl, rfl, rfl, rfl, rfl, f3, i + 1, ti_p1 e5 hi9, by omega, by omega, x4, wr, by simp only; omega, by simp only; omega, by simp only; omega, Or.inr ti_1, hs1⟩
      · have hr1 := bz_0 hr c
        rw [if_neg (fun z => c z.2)] at e12
        have n2 : (a5 + 0).toInt = a5.toInt := by rw [ti_add] <;> rw [ti_0] <;> omega
        simp only [ok_kl, ok_cd, ok_gd, ok_bd, ok_rr1, ok_nr0, ok_nr1, ok_ret, sh_sI, gR_sI, sh_sR, sh_sL, gI_sL, gR_sL, gL_sI, gL_sR, sh_cI, gR_cI, sh_cL, gR_cL, gI_cL, gR_ne, gR_nk, gR_eq, gI_sR, gI_eq, gI_ne, gI_nk, ti_lt, ti_le, ti_eq, ti_nat, ti_0, ti_1, ti_2, ti_3, ti_4, ti_5, ti_6, ti_7, ti_8, ti_9, ti_10, ti_60, ti_99, ti_199, ti_100, ti_19, ti_20, ti_127, ti_n1, true_and, and_true, false_and, and_false, not_false_eq_true, not_true_eq_false, false_implies, true_implies, Int.reduceEq, Int.reduceLT, Int.reduceLE, Int.reduceNeg, or_self, or_true, true_or, or_false, false_or, implies_true, Int.toNat_natCast, Int.reduceToNat, hr1]
        refine IH _ ?_; exact ⟨rfl, rfl, rfl, rfl, rfl, f3, i + 1, ti_p1 e5 hi9, by omega, by omega, x4, wr, by simp only; omega, by simp only; omega, by simp only; omega, Or.inr ti_1, hs1⟩
    · clear x3
      rw [if_neg (fun z => k z.1)] at e12
      have hs0 : hasL q1.toInt L = (decide (a6.toInt = 1) || hasL q1.toInt R) := by rw [e14]; simp [k]
      simp only [ok_kl, ok_cd, ok_gd, ok_bd, ok_rr1, ok_nr0, ok_nr1, ok_ret, sh_sI, gR_sI, sh_sR, sh_sL, gI_sL, gR_sL, gL_sI, gL_sR, sh_cI, gR_cI, sh_cL, gR_cL, gI_cL, gR_ne, gR_nk, gR_eq, gI_sR, gI_eq, gI_ne, gI_nk, ti_lt, ti_le, ti_eq, ti_nat, ti_0, ti_1, ti_2, ti_3, ti_4, ti_5, ti_6, ti_7, ti_8, ti_9, ti_10, ti_60, ti_99, ti_199, ti_100, ti_19, ti_20, ti_127, ti_n1, true_and, and_true, false_and, and_false, not_false_eq_true, not_true_eq_false, false_implies, true_implies, Int.reduceEq, Int.reduceLT, Int.reduceLE, Int.reduceNeg, or_self, or_true, true_or, or_false, false_or, implies_true, Int.toNat_natCast, Int.reduceToNat, hm, hr', e5, c0, c1, c2, k1, x1, k]
      refine IH _ ?_; exact ⟨rfl, rfl, rfl, rfl, rfl, f, i + 1, ti_p1 e5 hi9, by omega, by omega, x4, wr, by simp only; omega, by simp only; omega, by simp only; omega, e13, hs0⟩
  · rintro rec ⟨q0, q1, q2, q3, q4, a5, a6, a7, v⟩ ⟨e0, e1, e2, e3, e4, f, i, e5, e6, e7, e8, e9, e10, e11, e12, e13, e14⟩
    simp only at e0 e1 e2 e3 e4 f e5 e10 e11 e12 e13 e14
    subst e0 e1 e2 e3 e4
    simp only [List.length_nil] at e6
    have hLv := f.lay hL
    have hm := lay_M hLv
    have hvv := hv.fr f (fun d h1 h2 => ⟨by simp; omega, by simp⟩) (by decide)
    have c0 : ((b + L.length : Nat) : Int) ≤ (i : Int) := by omega
    simp only [f_M_sumOf_b12, ok_gd, hm, true_and]
    refine ok_call (c_behindText hLv hvv) ?_
    rintro r v' ⟨rfl, hr'⟩
    simp only [togL] at e12
    simp only [hasL, Bool.or_false] at e14
    rcases e13 with e13 | e13
    · rw [e14, e13]
      simp only [ok_kl, ok_cd, ok_gd, ok_bd, ok_rr1, ok_nr0, ok_nr1, ok_ret, sh_sI, gR_sI, sh_sR, sh_sL, gI_sL, gR_sL, gL_sI, gL_sR, sh_cI, gR_cI, sh_cL, gR_cL, gI_cL, gR_ne, gR_nk, gR_eq, gI_sR, gI_eq, gI_ne, gI_nk, ti_lt, ti_le, ti_eq, ti_nat, ti_0, ti_1, ti_2, ti_3, ti_4, ti_5, ti_6, ti_7, ti_8, ti_9, ti_10, ti_60, ti_99, ti_199, ti_100, ti_19, ti_20, ti_127, ti_n1, true_and, and_true, false_and, and_false, not_false_eq_true, not_true_eq_false, false_implies, true_implies, Int.reduceEq, Int.reduceLT, Int.reduceLE, Int.reduceNeg, or_self, or_true, true_or, or_false, false_or, implies_true, Int.toNat_natCast, Int.reduceToNat, hr', e5, c0, e13]
      exact ⟨f, by simp⟩
    · have d0 : ¬ (1 : Int) = 0 := by omega
      rw [e14, e13]
      simp only [ok_kl, ok_cd, ok_gd, ok_bd, ok_rr1, ok_nr0, ok_nr1, ok_ret, sh_sI, gR_sI, sh_sR, sh_sL, gI_sL, gR_sL, gL_sI, gL_sR, sh_cI, gR_cI, sh_cL, gR_cL, gI_cL, gR_ne, gR_nk, gR_eq, gI_sR, gI_eq, gI_ne, gI_nk, ti_lt, ti_le, ti_eq, ti_nat, ti_0, ti_1, ti_2, ti_3, ti_4, ti_5, ti_6, ti_7, ti_8, ti_9, ti_10, ti_60, ti_99, ti_199, ti_100, ti_19, ti_20, ti_127, ti_n1, true_and, and_true, false_and, and_false, not_false_eq_true, not_true_eq_false, false_implies, true_implies, Int.reduceEq, Int.reduceLT, Int.reduceLE, Int.reduceNeg, or_self, or_true, true_or, or_false, false_or, implies_true, Int.toNat_natCast, Int.reduceToNat, hr', e5, c0, e13, d0]
      exact ⟨f, by simp; omega⟩
  · refine ⟨rfl, rfl, rfl, rfl, rfl, Fr.rf, b, hr, rfl, by omega, g4, g3, by simp [ti_0], by simp [ti_0], by simp [ti_0], Or.inl ti_0, by simp [ti_0]⟩
def heftF (L : List Cl) (s : Nat) : Int := if hasL 0 L = true then togL 0 (fct s 0 0 0 0) L else (s : Int) + 2
def keptF (L : List Cl) (ft : Nat → Int) : Int := togL 1 ft L
theorem heftF_in {L : List Cl} {s : Nat} (hw : WF L) (hl : L.length ≤ 10) (hs : s < 6) : 0 ≤ heftF L s ∧ heftF L s ≤ 990 := by
  have := togL_in (k := 0) (ft := fct s 0 0 0 0) L hw
  unfold heftF; split <;> omega
theorem keptF_in {L : List Cl} {ft : Nat → Int} (hw : WF L) (hl : L.length ≤ 10) : 0 ≤ keptF L ft ∧ keptF L ft ≤ 990 := by
  have := togL_in (k := 1) (ft := ft) L hw
  unfold keptF; omega
theorem c_heft {N b s : Nat} {w : gW} {L : List Cl} {a1 : Int32} (hN : 1000 ≤ N) (hL : Lay w) (hv : MV w b L) (hwr : wrM w) (hpd : pdM w) (h1 : a1.toInt = (s : Int)) (hs : s < 6) :
    ok (f_M_heft N 133 a1 w) (fun r u => Fr [150] [] w u ∧ r.toInt = heftF L s) := by
  have hm := lay_M hL
  simp only [f_M_heft, f_M_heft_b0, ok_bd, ok_gd, hm, true_and]
  refine ok_call (c_sumOf (s := s) hN hL hv hwr hpd (by decide) h1 hs (Or.inl ti_n1)) ?_
  rintro r u ⟨f, h⟩
  refine ok_ret.mpr ⟨f, ?_⟩
  have e : mft w s (-1 : Int32).toInt = fct s 0 0 0 0 := by unfold mft; rw [ti_n1, if_pos (by omega)]
  have e2 : (a1 + 2).toInt = (s : Int) + 2 := by rw [ti_add] <;> rw [ti_2] <;> omega
  rw [h, e, e2, ti_0]; rfl
theorem c_mkept {N b s p : Nat} {w : gW} {L : List Cl} {a1 a2 : Int32} (hN : 1000 ≤ N) (hL : Lay w) (hv : MV w b L) (hwr : wrM w) (hpd : pdM w) (h1 : a1.toInt = (p : Int)) (hp : p < 4) (h2 : a2.toInt = (s : Int)) (hs : s < 6) :
    ok (f_M_kept N 133 a1 a2 w) (fun r u => Fr [150] [] w u ∧ r.toInt = keptF L (fct s (gI w 140 s).toInt p (gI w 135 p).toInt ((gI w 137 p).toInt % 7))) := by
  have hm := lay_M hL
  simp only [f_M_kept, f_M_kept_b0, ok_gd, hm, true_and]
  refine ok_call (c_sumOf (s := s) hN hL hv hwr hpd (by decide) h2 hs (Or.inr (by omega))) ?_
  rintro r u ⟨f, h⟩
  refine ok_ret.mpr ⟨f, ?_⟩
  have e : mft w s a1.toInt = fct s (gI w 140 s).toInt p (gI w 135 p).toInt ((gI w 137 p).toInt % 7) := by unfold mft; rw [h1, if_neg (by omega), Int.toNat_natCast]
  rw [h, e, ti_1, ti_0]
  unfold keptF
  split
  · rfl
  · rename_i g; exact (togL_no L (by simpa using g)).symm
