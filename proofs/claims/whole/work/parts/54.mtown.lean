/-! ===== a town's clauses in the model ===== -/
set_option maxRecDepth 20000 in
theorem lay_M {w : gW} (h : Lay w) : sh w 133 = (12, 0) ∧ gR w 133 25 = some 150 ∧ sh w 150 = (53, 100) ∧ gR w 133 1 = some 134 ∧ sh w 134 = (50, 6) ∧ gR w 133 2 = some 135 ∧ sh w 135 = (50, 4) ∧ gR w 133 3 = some 136 ∧ sh w 136 = (50, 4) ∧ gR w 133 4 = some 137 ∧ sh w 137 = (50, 4) ∧ gR w 133 5 = some 138 ∧ sh w 138 = (50, 16) ∧ gR w 133 6 = some 139 ∧ sh w 139 = (50, 24) ∧ gR w 133 7 = some 140 ∧ sh w 140 = (50, 6) ∧ gR w 133 14 = some 142 ∧ sh w 142 = (50, 6) ∧ gR w 133 15 = some 143 ∧ sh w 143 = (50, 60) ∧ gR w 133 16 = some 144 ∧ sh w 144 = (50, 60) ∧ gR w 133 17 = some 145 ∧ sh w 145 = (50, 60) ∧ gR w 133 18 = some 146 ∧ sh w 146 = (50, 60) ∧ gR w 133 19 = some 147 ∧ sh w 147 = (50, 600) ∧ gR w 133 26 = some 151 ∧ sh w 151 = (50, 6) ∧ gR w 133 27 = some 152 ∧ sh w 152 = (50, 6) ∧ gR w 133 28 = some 153 ∧ sh w 153 = (50, 6) ∧ gR w 133 29 = some 154 ∧ sh w 154 = (50, 6) ∧ gR w 133 30 = some 155 ∧ sh w 155 = (50, 6) ∧ gR w 133 31 = some 156 ∧ sh w 156 = (50, 6) := ⟨h.1 133 (by decide), h.2.1 (133, 25, 150) (by decide), h.1 150 (by decide), h.2.1 (133, 1, 134) (by decide), h.1 134 (by decide), h.2.1 (133, 2, 135) (by decide), h.1 135 (by decide), h.2.1 (133, 3, 136) (by decide), h.1 136 (by decide), h.2.1 (133, 4, 137) (by decide), h.1 137 (by decide), h.2.1 (133, 5, 138) (by decide), h.1 138 (by decide), h.2.1 (133, 6, 139) (by decide), h.1 139 (by decide), h.2.1 (133, 7, 140) (by decide), h.1 140 (by decide), h.2.1 (133, 14, 142) (by decide), h.1 142 (by decide), h.2.1 (133, 15, 143) (by decide), h.1 143 (by decide), h.2.1 (133, 16, 144) (by decide), h.1 144 (by decide), h.2.1 (133, 17, 145) (by decide), h.1 145 (by decide), h.2.1 (133, 18, 146) (by decide), h.1 146 (by decide), h.2.1 (133, 19, 147) (by decide), h.1 147 (by decide), h.2.1 (133, 26, 151) (by decide), h.1 151 (by decide), h.2.1 (133, 27, 152) (by decide), h.1 152 (by decide), h.2.1 (133, 28, 153) (by decide), h.1 153 (by decide), h.2.1 (133, 29, 154) (by decide), h.1 154 (by decide), h.2.1 (133, 30, 155) (by decide), h.1 155 (by decide), h.2.1 (133, 31, 156) (by decide), h.1 156 (by decide)⟩
theorem ti_n33 : (-33 : Int32).toInt = -33 := rfl
theorem ti_n38 : (-38 : Int32).toInt = -38 := rfl
theorem nar1 : vp_nar .boolean 1 = 1 := rfl
theorem nar0 : vp_nar .boolean 0 = 0 := rfl
/-- worth of the sorts, as the model holds it -/
def wrM (w : gW) : Prop := ∀ s, s < 6 → (gI w 134 s).toInt = wo s
def mft (w : gW) (s : Nat) (p : Int) : Nat → Int := if p < 0 then fct s 0 0 0 0 else fct s (gI w 140 s).toInt p (gI w 135 p.toNat).toInt ((gI w 137 p.toNat).toInt % 7)
def pdM (w : gW) : Prop := ∀ p, p < 4 → 0 ≤ (gI w 137 p).toInt
theorem mod7 {x : Int32} (h : 0 ≤ x.toInt) : (x - x / 7 * 7).toInt = x.toInt % 7 := by
  obtain ⟨d, hd⟩ : ∃ d : Nat, x.toInt = (d : Int) := ⟨x.toInt.toNat, by omega⟩
  have := J_in x
  rw [hd, nI_ti hd, show (7 : Int32) = nI 7 from rfl, pk_rem (by omega) (by omega) (by omega), nI_toInt (by omega)]
  omega
set_option maxHeartbeats 1000000 in
theorem c_factOf {N f s : Nat} {w : gW} {a1 a2 a3 : Int32} (hL : Lay w) (hw : wrM w) (hp : pdM w) (h1 : a1.toInt = (f : Int)) (hf : f < 6) (h2 : a2.toInt = (s : Int)) (hs : s < 6) (h3 : a3.toInt = -1 ∨ 0 ≤ a3.toInt ∧ a3.toInt < 4) :
    ok (f_M_factOf N 133 a1 a2 a3 w) (fun r u => u = w ∧ r.toInt = mft w s a3.toInt f) := by
  have hm := lay_M hL
  have c1 : ¬ (s : Int) < 0 := by omega
  have c2 : ¬ 6 ≤ s := by omega
  have g1 := hw s hs
  rcases h3 with h3 | ⟨h3, h3'⟩
  · have e : mft w s a3.toInt = fct s 0 0 0 0 := by unfold mft; rw [if_pos (by omega)]
    rw [e]
    have c3 : ¬ (0 : Int) ≤ -1 := by omega
    rcases in6 hf with rfl | rfl | rfl | rfl | rfl | rfl
    · have h1' : a1.toInt = 0 := h1
      simp only [f_M_factOf, f_M_factOf_b0, f_M_factOf_b11, ok_kl, ok_cd, ok_gd, ok_bd, ok_rr1, ok_nr0, ok_nr1, ok_ret, sh_sI, gR_sI, sh_sR, sh_sL, gI_sL, gR_sL, gL_sI, gL_sR, sh_cI, gR_cI, sh_cL, gR_cL, gI_cL, gR_ne, gR_nk, gR_eq, gI_sR, gI_eq, gI_ne, gI_nk, ti_lt, ti_le, ti_eq, ti_nat, ti_0, ti_1, ti_2, ti_3, ti_4, ti_5, ti_6, ti_7, ti_8, ti_9, ti_10, ti_60, ti_99, ti_199, ti_100, ti_19, ti_20, ti_127, ti_n1, true_and, and_true, false_and, and_false, not_false_eq_true, not_true_eq_false, false_implies, true_implies, Int.reduceEq, Int.reduceLT, Int.reduceLE, Int.reduceNeg, or_self, or_true, true_or, or_false, false_or, implies_true, Int.toNat_natCast, Int.reduceToNat, hm, h1', h2, h3, c1, c2, c3, g1, fct]
    · have h1' : a1.toInt = 1 := h1
      simp only [f_M_factOf, f_M_factOf_b0, f_M_factOf_b11, ok_kl, ok_cd, ok_gd, ok_bd, ok_rr1, ok_nr0, ok_nr1, ok_ret, sh_sI, gR_sI, sh_sR, sh_sL, gI_sL, gR_sL, gL_sI, gL_sR, sh_cI, gR_cI, sh_cL, gR_cL, gI_cL, gR_ne, gR_nk, gR_eq, gI_sR, gI_eq, gI_ne, gI_nk, ti_lt, ti_le, ti_eq, ti_nat, ti_0, ti_1, ti_2, ti_3, ti_4, ti_5, ti_6, ti_7, ti_8, ti_9, ti_10, ti_60, ti_99, ti_199, ti_100, ti_19, ti_20, ti_127, ti_n1, true_and, and_true, false_and, and_false, not_false_eq_true, not_true_eq_false, false_implies, true_implies, Int.reduceEq, Int.reduceLT, Int.reduceLE, Int.reduceNeg, or_self, or_true, true_or, or_false, false_or, implies_true, Int.toNat_natCast, Int.reduceToNat, hm, h1', h2, h3, c1, c2, c3, g1, fct]
    · have h1' : a1.toInt = 2 := h1
      simp only [f_M_factOf, f_M_factOf_b0, f_M_factOf_b11, ok_kl, ok_cd, ok_gd, ok_bd, ok_rr1, ok_nr0, ok_nr1, ok_ret, sh_sI, gR_sI, sh_sR, sh_sL, gI_sL, gR_sL, gL_sI, gL_sR, sh_cI, gR_cI, sh_cL, gR_cL, gI_cL, gR_ne, gR_nk, gR_eq, gI_sR, gI_eq, gI_ne, gI_nk, ti_lt, ti_le, ti_eq, ti_nat, ti_0, ti_1, ti_2, ti_3, ti_4, ti_5, ti_6, ti_7, ti_8, ti_9, ti_10, ti_60, ti_99, ti_199, ti_100, ti_19, ti_20, ti_127, ti_n1, true_and, and_true, false_and, and_false, not_false_eq_true, not_true_eq_false, false_implies, true_implies, Int.reduceEq, Int.reduceLT, Int.reduceLE, Int.reduceNeg, or_self, or_true, true_or, or_false, false_or, implies_true, Int.toNat_natCast, Int.reduceToNat, hm, h1', h2, h3, c1, c2, c3, g1, fct]
    · have h1' : a1.toInt = 3 := h1
      simp only [f_M_factOf, f_M_factOf_b0, f_M_factOf_b11, ok_kl, ok_cd, ok_gd, ok_bd, ok_rr1, ok_nr0, ok_nr1, ok_ret, sh_sI, gR_sI, sh_sR, sh_sL, gI_sL, gR_sL, gL_sI, gL_sR, sh_cI, gR_cI, sh_cL, gR_cL, gI_cL, gR_ne, gR_nk, gR_eq, gI_sR, gI_eq, gI_ne, gI_nk, ti_lt, ti_le, ti_eq, ti_nat, ti_0, ti_1, ti_2, ti_3, ti_4, ti_5, ti_6, ti_7, ti_8, ti_9, ti_10, ti_60, ti_99, ti_199, ti_100, ti_19, ti_20, ti_127, ti_n1, true_and, and_true, false_and, and_false, not_false_eq_true, not_true_eq_false, false_implies, true_implies, Int.reduceEq, Int.reduceLT, Int.reduceLE, Int.reduceNeg, or_self, or_true, true_or, or_false, false_or, implies_true, Int.toNat_natCast, Int.reduceToNat, hm, h1', h2, h3, c1, c2, c3, g1, fct]
    · have h1' : a1.toInt = 4 := h1
      simp only [f_M_factOf, f_M_factOf_b0, f_M_factOf_b11, ok_kl, ok_cd, ok_gd, ok_bd, ok_rr1, ok_nr0, ok_nr1, ok_ret, sh_sI, gR_sI, sh_sR, sh_sL, gI_sL, gR_sL, gL_sI, gL_sR, sh_cI, gR_cI, sh_cL, gR_cL, gI_cL, gR_ne, gR_nk, gR_eq, gI_sR, gI_eq, gI_ne, gI_nk, ti_lt, ti_le, ti_eq, ti_nat, ti_0, ti_1, ti_2, ti_3, ti_4, ti_5, ti_6, ti_7, ti_8, ti_9, ti_10, ti_60, ti_99, ti_199, ti_100, ti_19, ti_20, ti_127, ti_n1, true_and, and_true, false_and, and_false, not_false_eq_true, not_true_eq_false, false_implies, true_implies, Int.reduceEq, Int.reduceLT, Int.reduceLE, Int.reduceNeg, or_self, or_true, true_or, or_false, false_or, implies_true, Int.toNat_natCast, Int.reduceToNat, hm, h1', h2, h3, c1, c2, c3, g1, fct]
    · have h1' : a1.toInt = 5 := h1
      simp only [f_M_factOf, f_M_factOf_b0, f_M_factOf_b11, ok_kl, ok_cd, ok_gd, ok_bd, ok_rr1, ok_nr0, ok_nr1, ok_ret, sh_sI, gR_sI, sh_sR, sh_sL, gI_sL, gR_sL, gL_sI, gL_sR, sh_cI, gR_cI, sh_cL, gR_cL, gI_cL, gR_ne, gR_nk, gR_eq, gI_sR, gI_eq, gI_ne, gI_nk, ti_lt, ti_le, ti_eq, ti_nat, ti_0, ti_1, ti_2, ti_3, ti_4, ti_5, ti_6, ti_7, ti_8, ti_9, ti_10, ti_60, ti_99, ti_199, ti_100, ti_19, ti_20, ti_127, ti_n1, true_and, and_true, false_and, and_false, not_false_eq_true, not_true_eq_false, false_implies, true_implies, Int.reduceEq, Int.reduceLT, Int.reduceLE, Int.reduceNeg, or_self, or_true, true_or, or_false, false_or, implies_true, Int.toNat_natCast, Int.reduceToNat, hm, h1', h2, h3, c1, c2, c3, g1, fct]
  · obtain ⟨p, hpp⟩ : ∃ p : Nat, a3.toInt = (p : Int) := ⟨a3.toInt.toNat, by omega⟩
    have c3 : ¬ (p : Int) < 0 := by omega
    have c4 : ¬ 4 ≤ p := by omega
    have c5 : (0 : Int) ≤ (p : Int) := by omega
    have e : mft w s a3.toInt = fct s (gI w 140 s).toInt p (gI w 135 p).toInt ((gI w 137 p).toInt % 7) := by unfold mft; rw [hpp, if_neg c3, Int.toNat_natCast]
    rw [e]
    have m7 := mod7 (hp p (by omega))
    rcases in6 hf with rfl | rfl | rfl | rfl | rfl | rfl
    · have h1' : a1.toInt = 0 := h1
      simp only [f_M_factOf, f_M_factOf_b0, f_M_factOf_b11, ok_kl, ok_cd, ok_gd, ok_bd, ok_rr1, ok_nr0, ok_nr1, ok_ret, sh_sI, gR_sI, sh_sR, sh_sL, gI_sL, gR_sL, gL_sI, gL_sR, sh_cI, gR_cI, sh_cL, gR_cL, gI_cL, gR_ne, gR_nk, gR_eq, gI_sR, gI_eq, gI_ne, gI_nk, ti_lt, ti_le, ti_eq, ti_nat, ti_0, ti_1, ti_2, ti_3, ti_4, ti_5, ti_6, ti_7, ti_8, ti_9, ti_10, ti_60, ti_99, ti_199, ti_100, ti_19, ti_20, ti_127, ti_n1, true_and, and_true, false_and, and_false, not_false_eq_true, not_true_eq_false, false_implies, true_implies, Int.reduceEq, Int.reduceLT, Int.reduceLE, Int.reduceNeg, or_self, or_true, true_or, or_false, false_or, implies_true, Int.toNat_natCast, Int.reduceToNat, hm, h1', h2, hpp, c1, c2, c3, c4, c5, g1, m7, fct]
    · have h1' : a1.toInt = 1 := h1
      simp only [f_M_factOf, f_M_factOf_b0, f_M_factOf_b11, ok_kl, ok_cd, ok_gd, ok_bd, ok_rr1, ok_nr0, ok_nr1, ok_ret, sh_sI, gR_sI, sh_sR, sh_sL, gI_sL, gR_sL, gL_sI, gL_sR, sh_cI, gR_cI, sh_cL, gR_cL, gI_cL, gR_ne, gR_nk, gR_eq, gI_sR, gI_eq, gI_ne, gI_nk, ti_lt, ti_le, ti_eq, ti_nat, ti_0, ti_1, ti_2, ti_3, ti_4, ti_5, ti_6, ti_7, ti_8, ti_9, ti_10, ti_60, ti_99, ti_199, ti_100, ti_19, ti_20, ti_127, ti_n1, true_and, and_true, false_and, and_false, not_false_eq_true, not_true_eq_false, false_implies, true_implies, Int.reduceEq, Int.reduceLT, Int.reduceLE, Int.reduceNeg, or_self, or_true, true_or, or_false, false_or, implies_true, Int.toNat_natCast, Int.reduceToNat, hm, h1', h2, hpp, c1, c2, c3, c4, c5, g1, m7, fct]
    · have h1' : a1.toInt = 2 := h1
      simp only [f_M_factOf, f_M_factOf_b0, f_M_factOf_b11, ok_kl, ok_cd, ok_gd, ok_bd, ok_rr1, ok_nr0, ok_nr1, ok_ret, sh_sI, gR_sI, sh_sR, sh_sL, gI_sL, gR_sL, gL_sI, gL_sR, sh_cI, gR_cI, sh_cL, gR_cL, gI_cL, gR_ne, gR_nk, gR_eq, gI_sR, gI_eq, gI_ne, gI_nk, ti_lt, ti_le, ti_eq, ti_nat, ti_0, ti_1, ti_2, ti_3, ti_4, ti_5, ti_6, ti_7, ti_8, ti_9, ti_10, ti_60, ti_99, ti_199, ti_100, ti_19, ti_20, ti_127, ti_n1, true_and, and_true, false_and, and_false, not_false_eq_true, not_true_eq_false, false_implies, true_implies, Int.reduceEq, Int.reduceLT, Int.reduceLE, Int.reduceNeg, or_self, or_true, true_or, or_false, false_or, implies_true, Int.toNat_natCast, Int.reduceToNat, hm, h1', h2, hpp, c1, c2, c3, c4, c5, g1, m7, fct]
    · have h1' : a1.toInt = 3 := h1
      simp only [f_M_factOf, f_M_factOf_b0, f_M_factOf_b11, ok_kl, ok_cd, ok_gd, ok_bd, ok_rr1, ok_nr0, ok_nr1, ok_ret, sh_sI, gR_sI, sh_sR, sh_sL, gI_sL, gR_sL, gL_sI, gL_sR, sh_cI, gR_cI, sh_cL, gR_cL, gI_cL, gR_ne, gR_nk, gR_eq, gI_sR, gI_eq, gI_ne, gI_nk, ti_lt, ti_le, ti_eq, ti_nat, ti_0, ti_1, ti_2, ti_3, ti_4, ti_5, ti_6, ti_7, ti_8, ti_9, ti_10, ti_60, ti_99, ti_199, ti_100, ti_19, ti_20, ti_127, ti_n1, true_and, and_true, false_and, and_false, not_false_eq_true, not_true_eq_false, false_implies, true_implies, Int.reduceEq, Int.reduceLT, Int.reduceLE, Int.reduceNeg, or_self, or_true, true_or, or_false, false_or, implies_true, Int.toNat_natCast, Int.reduceToNat, hm, h1', h2, hpp, c1, c2, c3, c4, c5, g1, m7, fct]
    · have h1' : a1.toInt = 4 := h1
      simp only [f_M_factOf, f_M_factOf_b0, f_M_factOf_b11, ok_kl, ok_cd, ok_gd, ok_bd, ok_rr1, ok_nr0, ok_nr1, ok_ret, sh_sI, gR_sI, sh_sR, sh_sL, gI_sL, gR_sL, gL_sI, gL_sR, sh_cI, gR_cI, sh_cL, gR_cL, gI_cL, gR_ne, gR_nk, gR_eq, gI_sR, gI_eq, gI_ne, gI_nk, ti_lt, ti_le, ti_eq, ti_nat, ti_0, ti_1, ti_2, ti_3, ti_4, ti_5, ti_6, ti_7, ti_8, ti_9, ti_10, ti_60, ti_99, ti_199, ti_100, ti_19, ti_20, ti_127, ti_n1, true_and, and_true, false_and, and_false, not_false_eq_true, not_true_eq_false, false_implies, true_implies, Int.reduceEq, Int.reduceLT, Int.reduceLE, Int.reduceNeg, or_self, or_true, true_or, or_false, false_or, implies_true, Int.toNat_natCast, Int.reduceToNat, hm, h1', h2, hpp, c1, c2, c3, c4, c5, g1, m7, fct]
    · have h1' : a1.toInt = 5 := h1
      simp only [f_M_factOf, f_M_factOf_b0, f_M_factOf_b11, ok_kl, ok_cd, ok_gd, ok_bd, ok_rr1, ok_nr0, ok_nr1, ok_ret, sh_sI, gR_sI, sh_sR, sh_sL, gI_sL, gR_sL, gL_sI, gL_sR, sh_cI, gR_cI, sh_cL, gR_cL, gI_cL, gR_ne, gR_nk, gR_eq, gI_sR, gI_eq, gI_ne, gI_nk, ti_lt, ti_le, ti_eq, ti_nat, ti_0, ti_1, ti_2, ti_3, ti_4, ti_5, ti_6, ti_7, ti_8, ti_9, ti_10, ti_60, ti_99, ti_199, ti_100, ti_19, ti_20, ti_127, ti_n1, true_and, and_true, false_and, and_false, not_false_eq_true, not_true_eq_false, false_implies, true_implies, Int.reduceEq, Int.reduceLT, Int.reduceLE, Int.reduceNeg, or_self, or_true, true_or, or_false, false_or, implies_true, Int.toNat_natCast, Int.reduceToNat, hm, h1', h2, hpp, c1, c2, c3, c4, c5, g1, m7, fct]
def pil (u : gW) : List Bool → Prop
  | [] => True
  | b :: r => (gI u 150 r.length).toInt = bz b ∧ pil u r
theorem pil_set {u : gW} {k : Nat} {v : Int32} : ∀ (st : List Bool), st.length ≤ k → pil u st → pil (sI u 150 k v) st := by
  intro st
  induction st with
  | nil => intro _ _; trivial
  | cons b r ih =>
    rintro h ⟨h1, h2⟩
    simp only [List.length_cons] at h
    exact ⟨by rw [gI_nk (by omega)]; exact h1, ih (by omega) h2⟩
theorem fct_in {w u : gW} {s : Nat} {p : Int} (f : Fr [150] [] w u) : mft u s p = mft w s p := by
  unfold mft; rw [f.i ⟨by decide, by simp⟩, f.i ⟨by decide, by simp⟩, f.i ⟨by decide, by simp⟩]
theorem wrM.c {w u : gW} {T : List Nat} {C : List (Nat × Nat)} (f : Fr T C w u) (h : oP T C 134) (q : wrM w) : wrM u := fun s hs => by rw [f.i h]; exact q s hs
theorem pdM.c {w u : gW} {T : List Nat} {C : List (Nat × Nat)} (f : Fr T C w u) (h : oP T C 137) (q : pdM w) : pdM u := fun s hs => by rw [f.i h]; exact q s hs
theorem bz_z (b : Bool) : bz b = 0 ∨ bz b = 1 := by cases b <;> simp [bz]
