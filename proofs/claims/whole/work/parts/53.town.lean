/-! ===== a town's clauses in the class ===== -/
abbrev Cl : Type := Int × Int × List Int
def TC (w : gW) (tp : Nat) : Nat → List Cl → Prop
  | _, [] => True
  | c, x :: L => (gI w (tp + 2) c).toInt = x.1 ∧ (gI w (tp + 3) c).toInt = x.2.1 ∧ (x.1 ≠ 2 → ∃ a : Nat, (gI w (tp + 4) c).toInt = (a : Int) ∧ (gI w (tp + 5) c).toInt = ((a + x.2.2.length : Nat) : Int) ∧ a + x.2.2.length ≤ 100 ∧ rgn w (tp + 6) cdz a x.2.2) ∧ TC w tp (c + 1) L
def WF (L : List Cl) : Prop := ∀ x ∈ L, 0 ≤ x.1 ∧ x.1 ≤ 2 ∧ 0 ≤ x.2.1 ∧ x.2.1 ≤ 99 ∧ (x.1 ≠ 2 → wfs x.2.2 0 1)
def togL (k : Int) (ft : Nat → Int) : List Cl → Int
  | [] => 0
  | x :: L => (if x.1 = k ∧ hdb (evs ft x.2.2 []) = true then x.2.1 else 0) + togL k ft L
theorem togL_in {k : Int} {ft : Nat → Int} : ∀ (L : List Cl), WF L → 0 ≤ togL k ft L ∧ togL k ft L ≤ 99 * (L.length : Int) := by
  intro L
  induction L with
  | nil => intro _; simp [togL]
  | cons x L ih =>
    intro h
    have h1 := ih (fun y hy => h y (List.mem_cons_of_mem _ hy))
    have h2 := h x List.mem_cons_self
    simp only [togL, List.length_cons]
    split <;> omega
theorem TC.c {w u : gW} {tp : Nat} (h : ∀ d k, 2 ≤ d → d ≤ 6 → gI u (tp + d) k = gI w (tp + d) k) : ∀ (L : List Cl) (c : Nat), TC w tp c L → TC u tp c L := by
  intro L
  induction L with
  | nil => intro c _; trivial
  | cons x L ih =>
    rintro c ⟨h1, h2, h3, h4⟩
    refine ⟨by rw [h 2 _ (by omega) (by omega)]; exact h1, by rw [h 3 _ (by omega) (by omega)]; exact h2, fun g => ?_, ih (c + 1) h4⟩
    obtain ⟨a, g1, g2, g3, g4⟩ := h3 g
    exact ⟨a, by rw [h 4 _ (by omega) (by omega)]; exact g1, by rw [h 5 _ (by omega) (by omega)]; exact g2, g3, rgn_c _ _ (fun k _ _ => h 6 k (by omega) (by omega)) g4⟩
set_option maxHeartbeats 8000000 in
theorem c_together {N tp : Nat} {w : gW} {a1 : Int32} {ft : Nat → Int} {L : List Cl} (hN : 1000 ≤ N) (hL : Lay w) (hT : isT tp) (h1 : a1.toInt ≠ 2) (hn : (gI w tp 6).toInt = ((L.length : Nat) : Int)) (hc : TC w tp 0 L) (hw : WF L) (hl : L.length ≤ 10) (hf : ∀ k, k < 6 → (gI w (tp + 7) k).toInt = ft k) :
    ok (f_Tn_together N tp a1 w) (fun r u => u = w ∧ r.toInt = togL a1.toInt ft L) := by
  obtain ⟨t0, -, t2, t3, t4, t5, -, -, -, s2, s3, s4, s5, -, -⟩ := lay_T hL hT
  unfold f_Tn_together f_Tn_together_b0 f_Tn_together_l4
  refine itr_li (β := Cl) (fun R q => q.1 = tp ∧ q.2.1 = a1 ∧ q.2.2.2.2 = w ∧ ∃ i : Nat, q.2.2.2.1.toInt = (i : Int) ∧ i + R.length = L.length ∧ TC w tp i R ∧ WF R ∧ 0 ≤ q.2.2.1.toInt ∧ q.2.2.1.toInt ≤ 99 * (i : Int) ∧ q.2.2.1.toInt + togL a1.toInt ft R = togL a1.toInt ft L) ?_ ?_ L N _ ?_ (by omega)
  · rintro rec x R ⟨q0, q1, a2, a3, u⟩ ⟨e0, e1, e2, i, e3, e4, e5, e6, e7, e8, e9⟩ IH
    simp only at e0 e1 e2 e3 e7 e8 e9
    subst e0 e1 e2
    simp only [List.length_cons] at e4
    obtain ⟨x1, x2, x3, x4⟩ := e5
    obtain ⟨y1, y2, y3, y4, y5⟩ := e6 x List.mem_cons_self
    have wr : WF R := fun y hy => e6 y (List.mem_cons_of_mem _ hy)
    have c0 : ¬ (L.length : Int) ≤ (i : Int) := by omega
    have c1 : ¬ (i : Int) < 0 := by omega
    have c2 : ¬ 10 ≤ i := by omega
    have n1 : (a3 + 1).toInt = ((i + 1 : Nat) : Int) := by rw [ti_add1 (by omega)]; omega
    simp only [togL] at e9
    by_cases k : x.1 = q1.toInt
    · obtain ⟨a, g1, g2, g3, g4⟩ := x3 (by rw [k]; exact h1)
      have hh := c_holds (N := N) (by omega) hL hT g1 g2 g3 g4 (y5 (by rw [k]; exact h1)) hf
      simp only [f_Tn_together_b4, ok_kl, ok_cd, ok_gd, ok_bd, ok_rr1, ok_nr0, ok_nr1, ok_ret, sh_sI, gR_sI, sh_sR, sh_sL, gI_sL, gR_sL, gL_sI, gL_sR, sh_cI, gR_cI, sh_cL, gR_cL, gI_cL, gR_ne, gR_nk, gR_eq, gI_sR, gI_eq, gI_ne, gI_nk, ti_lt, ti_le, ti_eq, ti_nat, ti_0, ti_1, ti_2, ti_3, ti_4, ti_5, ti_6, ti_7, ti_8, ti_9, ti_10, ti_60, ti_99, ti_199, ti_100, ti_19, ti_20, ti_127, ti_n1, true_and, and_true, false_and, and_false, not_false_eq_true, not_true_eq_false, false_implies, true_implies, Int.reduceEq, Int.reduceLT, Int.reduceLE, Int.reduceNeg, or_self, or_true, true_or, or_false, false_or, implies_true, Int.toNat_natCast, Int.reduceToNat, t0, t2, t3, t4, t5, s2, s3, s4, s5, hn, e3, c0, c1, c2, x1, k]
      refine hh.mono ?_
      rintro r v ⟨rfl, hr⟩
      by_cases c : hdb (evs ft x.2.2 []) = true
      · have hr1 := bz_1 hr c
        have z10 : ¬ (1 : Int) = 0 := by omega
        simp only [ok_kl, ok_cd, ok_gd, ok_bd, ok_rr1, ok_nr0, ok_nr1, ok_ret, sh_sI, gR_sI, sh_sR, sh_sL, gI_sL, gR_sL, gL_sI, gL_sR, sh_cI, gR_cI, sh_cL, gR_cL, gI_cL, gR_ne, gR_nk, gR_eq, gI_sR, gI_eq, gI_ne, gI_nk, ti_lt, ti_le, ti_eq, ti_nat, ti_0, ti_1, ti_2, ti_3, ti_4, ti_5, ti_6, ti_7, ti_8, ti_9, ti_10, ti_60, ti_99, ti_199, ti_100, ti_19, ti_20, ti_127, ti_n1, true_and, and_true, false_and, and_false, not_false_eq_true, not_true_eq_false, false_implies, true_implies, Int.reduceEq, Int.reduceLT, Int.reduceLE, Int.reduceNeg, or_self, or_true, true_or, or_false, false_or, implies_true, Int.toNat_natCast, Int.reduceToNat, t0, t3, s3, e3, c1, c2, hr1, z10]
        rw [if_pos ⟨k, c⟩] at e9
        have n2 : (a2 + gI v (q0 + 3) i).toInt = a2.toInt + x.2.1 := by rw [ti_add] <;> rw [x2] <;> omega
        refine IH _ ?_; exact ⟨rfl, rfl, rfl, i + 1, n1, by omega, x4, wr, by simp only; omega, by simp only; omega, by simp only; omega⟩
      · have hr1 := bz_0 hr c
        simp only [ok_kl, ok_cd, ok_gd, ok_bd, ok_rr1, ok_nr0, ok_nr1, ok_ret, sh_sI, gR_sI, sh_sR, sh_sL, gI_sL, gR_sL, gL_sI, gL_sR, sh_cI, gR_cI, sh_cL, gR_cL, gI_cL, gR_ne, gR_nk, gR_eq, gI_sR, gI_eq, gI_ne, gI_nk, ti_lt, ti_le, ti_eq, ti_nat, ti_0, ti_1, ti_2, ti_3, ti_4, ti_5, ti_6, ti_7, ti_8, ti_9, ti_10, ti_60, ti_99, ti_199, ti_100, ti_19, ti_20, ti_127, ti_n1, true_and, and_true, false_and, and_false, not_false_eq_true, not_true_eq_false, false_implies, true_implies, Int.reduceEq, Int.reduceLT, Int.reduceLE, Int.reduceNeg, or_self, or_true, true_or, or_false, false_or, implies_true, Int.toNat_natCast, Int.reduceToNat, hr1]
        rw [if_neg (fun z => c z.2)] at e9
        refine IH _ ?_; exact ⟨rfl, rfl, rfl, i + 1, n1, by omega, x4, wr, by simp only; omega, by simp only; omega, by simp only; omega⟩
    · simp only [f_Tn_together_b4, ok_kl, ok_cd, ok_gd, ok_bd, ok_rr1, ok_nr0, ok_nr1, ok_ret, sh_sI, gR_sI, sh_sR, sh_sL, gI_sL, gR_sL, gL_sI, gL_sR, sh_cI, gR_cI, sh_cL, gR_cL, gI_cL, gR_ne, gR_nk, gR_eq, gI_sR, gI_eq, gI_ne, gI_nk, ti_lt, ti_le, ti_eq, ti_nat, ti_0, ti_1, ti_2, ti_3, ti_4, ti_5, ti_6, ti_7, ti_8, ti_9, ti_10, ti_60, ti_99, ti_199, ti_100, ti_19, ti_20, ti_127, ti_n1, true_and, and_true, false_and, and_false, not_false_eq_true, not_true_eq_false, false_implies, true_implies, Int.reduceEq, Int.reduceLT, Int.reduceLE, Int.reduceNeg, or_self, or_true, true_or, or_false, false_or, implies_true, Int.toNat_natCast, Int.reduceToNat, t0, t2, t3, t4, t5, s2, s3, s4, s5, hn, e3, c0, c1, c2, x1, k]
      rw [if_neg (fun z => k z.1)] at e9
      refine IH _ ?_; exact ⟨rfl, rfl, rfl, i + 1, n1, by omega, x4, wr, by simp only; omega, by simp only; omega, by simp only; omega⟩
  · rintro rec ⟨q0, q1, a2, a3, u⟩ ⟨e0, e1, e2, i, e3, e4, e5, e6, e7, e8, e9⟩
    simp only at e0 e1 e2 e3 e7 e8 e9
    subst e0 e1 e2
    simp only [List.length_nil] at e4
    have c0 : (L.length : Int) ≤ (i : Int) := by omega
    simp only [togL] at e9
    simp only [f_Tn_together_b4, ok_kl, ok_cd, ok_gd, ok_bd, ok_rr1, ok_nr0, ok_nr1, ok_ret, sh_sI, gR_sI, sh_sR, sh_sL, gI_sL, gR_sL, gL_sI, gL_sR, sh_cI, gR_cI, sh_cL, gR_cL, gI_cL, gR_ne, gR_nk, gR_eq, gI_sR, gI_eq, gI_ne, gI_nk, ti_lt, ti_le, ti_eq, ti_nat, ti_0, ti_1, ti_2, ti_3, ti_4, ti_5, ti_6, ti_7, ti_8, ti_9, ti_10, ti_60, ti_99, ti_199, ti_100, ti_19, ti_20, ti_127, ti_n1, true_and, and_true, false_and, and_false, not_false_eq_true, not_true_eq_false, false_implies, true_implies, Int.reduceEq, Int.reduceLT, Int.reduceLE, Int.reduceNeg, or_self, or_true, true_or, or_false, false_or, implies_true, Int.toNat_natCast, Int.reduceToNat, t0, hn, e3, c0]
    omega
  · exact ⟨rfl, rfl, rfl, 0, rfl, by omega, hc, hw, by simp, by simp, by simp⟩
/-- the facts of a sort, and of a payer -/
def fct (s : Nat) (t p k d : Int) : Nat → Int
  | 0 => s
  | 1 => wo s
  | 2 => t
  | 3 => p
  | 4 => k
  | _ => d
theorem gWorth_i {s : Nat} (h : s < 6) : (gWorth s).toInt = wo s := by
  rcases in6 h with rfl | rfl | rfl | rfl | rfl | rfl <;> rfl
set_option maxHeartbeats 4000000 in
theorem c_factsOf {N tp s : Nat} {w : gW} {a1 : Int32} (hN : 1000 ≤ N) (hL : Lay w) (hT : isT tp) (h1 : a1.toInt = (s : Int)) (hs : s < 6) :
    ok (f_Tn_factsOf N tp a1 w) (fun _ u => Fr [tp + 7] [] w u ∧ ∀ k, k < 6 → (gI u (tp + 7) k).toInt = fct s 0 0 0 0 k) := by
  obtain ⟨t0, -, -, -, -, -, -, t9, -, -, -, -, -, -, s9⟩ := lay_T hL hT
  have c1 : ¬ (s : Int) < 0 := by omega
  have c2 : ¬ 6 ≤ s := by omega
  have c3 : ¬ (6 : Nat) ≤ 0 := by omega
  have c4 : ¬ (6 : Nat) ≤ 1 := by omega
  simp only [f_Tn_factsOf, f_Tn_factsOf_b0, ok_kl, ok_cd, ok_gd, ok_bd, ok_rr1, ok_nr0, ok_nr1, ok_ret, sh_sI, gR_sI, sh_sR, sh_sL, gI_sL, gR_sL, gL_sI, gL_sR, sh_cI, gR_cI, sh_cL, gR_cL, gI_cL, gR_ne, gR_nk, gR_eq, gI_sR, gI_eq, gI_ne, gI_nk, ti_lt, ti_le, ti_eq, ti_nat, ti_0, ti_1, ti_2, ti_3, ti_4, ti_5, ti_6, ti_7, ti_8, ti_9, ti_10, ti_60, ti_99, ti_199, ti_100, ti_19, ti_20, ti_127, ti_n1, true_and, and_true, false_and, and_false, not_false_eq_true, not_true_eq_false, false_implies, true_implies, Int.reduceEq, Int.reduceLT, Int.reduceLE, Int.reduceNeg, or_self, or_true, true_or, or_false, false_or, implies_true, Int.toNat_natCast, Int.reduceToNat, t0, t9, s9, h1, c1, c2, c3, c4, Int.toNat_zero, Int.toNat_one, Int.lt_irrefl]
  unfold f_Tn_factsOf_l20
  refine itr_up (fun i q => q.1 = tp ∧ q.2.1.toInt = (i : Int) ∧ 2 ≤ i ∧ Fr [tp + 7] [] w q.2.2 ∧ (gI q.2.2 (tp + 7) 0).toInt = (s : Int) ∧ (gI q.2.2 (tp + 7) 1).toInt = wo s ∧ ∀ j, 2 ≤ j → j < i → gI q.2.2 (tp + 7) j = 0) 6 ?_ ?_ N 2 _ (by omega) ?_ (by omega)
  · rintro rec i ⟨q0, a2, u⟩ hi ⟨e0, e1, e2, e3, e4, e5, e6⟩ IH
    simp only at e0 e1 e3 e4 e5 e6
    subst e0
    obtain ⟨t0, -, -, -, -, -, -, t9, -, -, -, -, -, -, s9⟩ := lay_T (e3.lay hL) hT
    have d0 : ¬ (Int32.ofNat 6).toInt ≤ (i : Int) := by rw [show (Int32.ofNat 6).toInt = 6 from rfl]; omega
    have d1 : ¬ (i : Int) < 0 := by omega
    have d2 : ¬ 6 ≤ i := by omega
    have n1 : (a2 + 1).toInt = ((i + 1 : Nat) : Int) := by rw [ti_add1 (by omega)]; omega
    simp only [f_Tn_factsOf_b20, ok_kl, ok_cd, ok_gd, ok_bd, ok_rr1, ok_nr0, ok_nr1, ok_ret, sh_sI, gR_sI, sh_sR, sh_sL, gI_sL, gR_sL, gL_sI, gL_sR, sh_cI, gR_cI, sh_cL, gR_cL, gI_cL, gR_ne, gR_nk, gR_eq, gI_sR, gI_eq, gI_ne, gI_nk, ti_lt, ti_le, ti_eq, ti_nat, ti_0, ti_1, ti_2, ti_3, ti_4, ti_5, ti_6, ti_7, ti_8, ti_9, ti_10, ti_60, ti_99, ti_199, ti_100, ti_19, ti_20, ti_127, ti_n1, true_and, and_true, false_and, and_false, not_false_eq_true, not_true_eq_false, false_implies, true_implies, Int.reduceEq, Int.reduceLT, Int.reduceLE, Int.reduceNeg, or_self, or_true, true_or, or_false, false_or, implies_true, Int.toNat_natCast, Int.reduceToNat, t0, t9, s9, e1, d0, d1, d2]
    refine IH _ ?_; refine ⟨rfl, n1, by omega, Fr_sI e3 (by simp), ?_, ?_, fun j h2 h3 => ?_⟩
    · simp only; rw [gI_nk (by omega)]; exact e4
    · simp only; rw [gI_nk (by omega)]; exact e5
    · simp only; rw [gI_sI]
      by_cases e : j = i
      · rw [if_pos ⟨rfl, e⟩]
      · rw [if_neg (fun z => e z.2)]; exact e6 j h2 (by omega)
  · rintro rec ⟨q0, a2, u⟩ ⟨e0, e1, e2, e3, e4, e5, e6⟩
    simp only at e0 e1 e3 e4 e5 e6
    subst e0
    obtain ⟨t0, -, -, -, -, -, -, t9, -, -, -, -, -, -, s9⟩ := lay_T (e3.lay hL) hT
    have d0 : (Int32.ofNat 6).toInt ≤ ((6 : Nat) : Int) := by decide
    simp only [f_Tn_factsOf_b20, ok_kl, ok_cd, ok_gd, ok_bd, ok_rr1, ok_nr0, ok_nr1, ok_ret, sh_sI, gR_sI, sh_sR, sh_sL, gI_sL, gR_sL, gL_sI, gL_sR, sh_cI, gR_cI, sh_cL, gR_cL, gI_cL, gR_ne, gR_nk, gR_eq, gI_sR, gI_eq, gI_ne, gI_nk, ti_lt, ti_le, ti_eq, ti_nat, ti_0, ti_1, ti_2, ti_3, ti_4, ti_5, ti_6, ti_7, ti_8, ti_9, ti_10, ti_60, ti_99, ti_199, ti_100, ti_19, ti_20, ti_127, ti_n1, true_and, and_true, false_and, and_false, not_false_eq_true, not_true_eq_false, false_implies, true_implies, Int.reduceEq, Int.reduceLT, Int.reduceLE, Int.reduceNeg, or_self, or_true, true_or, or_false, false_or, implies_true, Int.toNat_natCast, Int.reduceToNat, t0, t9, s9, e1, d0]
    refine ⟨e3, fun k hk => ?_⟩
    rcases in6 hk with rfl | rfl | rfl | rfl | rfl | rfl
    · exact e4
    · exact e5
    all_goals (rw [e6 _ (by omega) (by omega)]; rfl)
  · refine ⟨rfl, rfl, by omega, Fr_sI (Fr_sI Fr.rf (by simp)) (by simp), ?_, ?_, fun j h2 h3 => by omega⟩
    · simp only; rw [gI_nk (by omega), gI_eq]; exact h1
    · simp only; rw [gI_eq]; exact gWorth_i hs
set_option maxHeartbeats 8000000 in
theorem c_kept {N tp W o s p : Nat} {w : gW} {a3 : Int32} {L : List Cl} (hN : 1000 ≤ N) (hL : Lay w) (hT : isT tp) (hW : isW W) (h3 : a3.toInt = (s : Int)) (hs : s < 6)
    (ho : 182 ≤ o) (hok : (sh w o).1 < 7) (hop : (gI w o 1).toInt = (p : Int)) (hp : p < 4) (hpd : 0 ≤ (gI w (W + 12) p).toInt)
    (hn : (gI w tp 6).toInt = ((L.length : Nat) : Int)) (hc : TC w tp 0 L) (hw : WF L) (hl : L.length ≤ 10) :
    ok (f_Tn_kept N tp W o a3 w) (fun r u => Fr [tp + 7] [] w u ∧ r.toInt = togL 1 (fct s (gI w (W + 13) s).toInt p (gI w o 0).toInt ((gI w (W + 12) p).toInt % 7)) L) := by
  have htp : tp + 7 < 182 := by rcases hT with rfl | ⟨i, hi, rfl⟩ <;> omega
  have htW : tp + 7 ≠ W + 13 ∧ tp + 7 ≠ W + 12 := by rcases hT with rfl | ⟨i, hi, rfl⟩ <;> rcases hW with rfl | rfl <;> omega
  obtain ⟨t0, -, -, -, -, -, -, t9, -, -, -, -, -, -, s9⟩ := lay_T hL hT
  have c1 : ¬ (s : Int) < 0 := by omega
  have c2 : ¬ 6 ≤ s := by omega
  have c3 : ¬ (p : Int) < 0 := by omega
  have c4 : ¬ 4 ≤ p := by omega
  unfold f_Tn_kept f_Tn_kept_b0
  simp only [ok_gd, t0, true_and]
  refine ok_call (c_factsOf hN hL hT h3 hs) ?_
  rintro - u ⟨f, g⟩
  have hLu := f.lay hL
  obtain ⟨t0, -, -, -, -, -, -, t9, -, -, -, -, -, -, s9⟩ := lay_T hLu hT
  obtain ⟨w0, -, -, -, w4, w5, -, -, -, -, -, -, -, -, v12, v13, -⟩ := lay_W hLu hW
  have k1 : gI u (W + 13) s = gI w (W + 13) s := f.i ⟨by simp; omega, by simp⟩
  have k2 : gI u o 1 = gI w o 1 := f.i ⟨by simp; omega, by simp⟩
  have k3 : gI u o 0 = gI w o 0 := f.i ⟨by simp; omega, by simp⟩
  have k4 : gI u (W + 12) p = gI w (W + 12) p := f.i ⟨by simp; omega, by simp⟩
  have k5 : sh u o = sh w o := f.s
  have d2 : ¬ (6 : Nat) ≤ 2 := by omega
  have d3 : ¬ (6 : Nat) ≤ 3 := by omega
  have d4 : ¬ (6 : Nat) ≤ 4 := by omega
  have d5 : ¬ (6 : Nat) ≤ 5 := by omega
  have j2 : (2 : Int).toNat = 2 := rfl
  have j3 : (3 : Int).toNat = 3 := rfl
  have j4 : (4 : Int).toNat = 4 := rfl
  have j5 : (5 : Int).toNat = 5 := rfl
  have n1 : o ≠ tp + 7 := by omega
  have n2 : W + 12 ≠ tp + 7 := by omega
  simp (disch := omega) only [ok_kl, ok_cd, ok_gd, ok_bd, ok_rr1, ok_nr0, ok_nr1, ok_ret, sh_sI, gR_sI, sh_sR, sh_sL, gI_sL, gR_sL, gL_sI, gL_sR, sh_cI, gR_cI, sh_cL, gR_cL, gI_cL, gR_ne, gR_nk, gR_eq, gI_sR, gI_eq, gI_ne, gI_nk, ti_lt, ti_le, ti_eq, ti_nat, ti_0, ti_1, ti_2, ti_3, ti_4, ti_5, ti_6, ti_7, ti_8, ti_9, ti_10, ti_60, ti_99, ti_199, ti_100, ti_19, ti_20, ti_127, ti_n1, true_and, and_true, false_and, and_false, not_false_eq_true, not_true_eq_false, false_implies, true_implies, Int.reduceEq, Int.reduceLT, Int.reduceLE, Int.reduceNeg, or_self, or_true, true_or, or_false, false_or, implies_true, Int.toNat_natCast, Int.reduceToNat, t0, t9, s9, w0, w4, w5, v12, v13, h3, c1, c2, c3, c4, k1, k2, k3, k4, k5, hok, hop, d2, d3, d4, d5, j2, j3, j4, j5, n1, n2]
  have hm : (gI w (W + 12) p - gI w (W + 12) p / 7 * 7).toInt = (gI w (W + 12) p).toInt % 7 := by
    obtain ⟨d, hd⟩ : ∃ d : Nat, (gI w (W + 12) p).toInt = (d : Int) := ⟨(gI w (W + 12) p).toInt.toNat, by omega⟩
    have := J_in (gI w (W + 12) p)
    rw [hd, nI_ti hd, show (7 : Int32) = nI 7 from rfl, pk_rem (by omega) (by omega) (by omega), nI_toInt (by omega)]
    omega
  generalize hu4 : sI (sI (sI (sI u (tp + 7) 2 (gI w (W + 13) s)) (tp + 7) 3 (gI w o 1)) (tp + 7) 4 (gI w o 0)) (tp + 7) 5 (gI w (W + 12) p - gI w (W + 12) p / 7 * 7) = u4
  have f4 : Fr [tp + 7] [] w u4 := by rw [← hu4]; exact Fr_sI (Fr_sI (Fr_sI (Fr_sI f (by simp)) (by simp)) (by simp)) (by simp)
  have := c_together (N := N) (tp := tp) (w := u4) (a1 := 1) (L := L) (ft := fct s (gI w (W + 13) s).toInt p (gI w o 0).toInt ((gI w (W + 12) p).toInt % 7)) hN (f4.lay hL) hT (by decide)
    (by rw [f4.i ⟨by simp, by simp⟩]; exact hn) (TC.c (fun d k h1 h2 => f4.i ⟨by simp; omega, by simp⟩) L 0 hc) hw hl (fun k hk => ?_)
  · refine this.mono ?_
    rintro r v ⟨rfl, h⟩
    exact ⟨f4, h⟩
  · rw [← hu4]
    rcases in6 hk with rfl | rfl | rfl | rfl | rfl | rfl
    · rw [gI_nk (by omega), gI_nk (by omega), gI_nk (by omega), gI_nk (by omega)]; exact g 0 (by omega)
    · rw [gI_nk (by omega), gI_nk (by omega), gI_nk (by omega), gI_nk (by omega)]; exact g 1 (by omega)
    · rw [gI_nk (by omega), gI_nk (by omega), gI_nk (by omega), gI_eq]; rfl
    · rw [gI_nk (by omega), gI_nk (by omega), gI_eq]; exact hop
    · rw [gI_nk (by omega), gI_eq]; rfl
    · rw [gI_eq]; exact hm
