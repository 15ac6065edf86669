/-! ===== next, fits =====  -/
def CX (w : gW) (c tp b : Nat) (kd v ob : Nat → Nat) (ro : Nat → Nat → Int) (L : List Cl) (A : PS) : Prop := Sim w ∧ CA w 9 c tp kd v ob ro L A ∧ MA w c b kd v ro L A ∧ (c : Int) = (gI w 133 0).toInt ∧ (gI w 9 1).toInt = (c : Int) ∧ c ≤ 4 ∧ ∀ p, p < c → gR w 10 p = some (ob p)
section NEXT
variable {N c tp b p : Nat} {w u z : gW} {kd v ob : Nat → Nat} {ro : Nat → Nat → Int} {L : List Cl} {A : PS} {a a1 a2 : Int32}
theorem Sim.cx (h : Sim w) : ∃ c tp b kd v ob ro L A, CX w c tp b kd v ob ro L A := by
  obtain ⟨tp, L, b, h1, h2, h3, h4⟩ := h.ca
  refine ⟨_, tp, b, _, _, _, _, L, _, h, h1, h2, h3, ?_, h1.2.2.2.1, h4⟩
  have := h.2.1.acnt
  unfold S_acnt eqC at this
  rw [this, h3]
theorem ru_o {a : Nat} (h : a ≤ 30 ∨ 182 ≤ a) (h8 : a ≠ 8) : oP RU SC a := by
  refine ⟨fun z => ?_, fun c hc => ?_⟩
  · simp only [List.mem_cons, List.not_mem_nil, or_false] at z; omega
  · simp only [List.mem_cons, List.not_mem_nil, or_false] at hc
    rcases hc with rfl | rfl | rfl | rfl | rfl <;> simp only [] <;> omega
theorem CX.rf (h : CX w c tp b kd v ob ro L A) (f : RF w u) : CX u c tp b kd v ob ro L A := by
  obtain ⟨h1, h2, h3, h4, h5, h6, h7⟩ := h
  have h2' := h2
  obtain ⟨-, hW, hT, -⟩ := h2'
  have h3' := h3
  obtain ⟨m1, m2, m3, m4, m5, m8, m9, m10, m11, m12⟩ := h3'
  have n : ∀ a, 134 ≤ a → a ≤ 149 → a ≠ 137 → a ≠ 139 → a ≠ 140 → oP RU SC a := fun a h1 h2 h3 h4 h5 => ⟨by simp; omega, (nsc_m ⟨h1, h2⟩).o.2⟩
  have g := f.1
  refine ⟨h1.rf f, h2.fr g (fun d hd => ru_o (by omega) (by omega)) (fun d hd => ?_) (fun a ha => ru_o (Or.inr ha) (by omega)), ⟨g.lay m1, m2.fr g (fun d h h' => n d (by omega) (by omega) (by omega) (by omega) (by omega)) (by decide), m3.c g (n _ (by omega) (by omega) (by omega) (by omega) (by omega)), m4, fun p hp => ?_, fun p s hp hs => ?_, fun s hs => ?_, fun p hp => ?_, m11, fun p k hp hk => ?_⟩, by rw [g.c ⟨by decide, by decide⟩]; exact h4, by rw [g.i (ru_o (by omega) (by omega))]; exact h5, h6, fun p hp => by rw [g.r (ru_o (by omega) (by omega))]; exact h7 p hp⟩
  · rcases hT with rfl | ⟨i, hi, rfl⟩
    · exact ru_o (by omega) (by omega)
    · refine ⟨by simp only [List.mem_cons, List.not_mem_nil, or_false]; omega, fun c hc => ?_⟩
      simp only [List.mem_cons, List.not_mem_nil, or_false] at hc
      rcases hc with rfl | rfl | rfl | rfl | rfl <;> simp only [] <;> omega
  · rw [g.i (n _ (by omega) (by omega) (by omega) (by omega) (by omega)), g.i (n _ (by omega) (by omega) (by omega) (by omega) (by omega))]; exact m5 p hp
  · rw [f.2.1]; exact m8 p s hp hs
  · rw [f.2.2.1]; exact m9 s hs
  · rw [f.2.2.2]; exact m10 p hp
  · rw [g.i (n _ (by omega) (by omega) (by omega) (by omega) (by omega))]; exact m12 p k hp hk
theorem CX.xp (h : CX w c tp b kd v ob ro L A) : ok (f_X_payerAt N 0 a w) (fun r u => u = w ∧ ((∃ p, p < c ∧ a.toInt = ((p : Nat) : Int) ∧ r = some (ob p)) ∨ (¬ (0 ≤ a.toInt ∧ a.toInt < (c : Int)) ∧ r = none))) := c_Xpayer h.1.1 h.2.2.2.2.1 h.2.2.2.2.2.1 h.2.2.2.2.2.2
theorem CX.mp (h : CX w c tp b kd v ob ro L A) : ok (f_M_isPayer N 133 a w) (fun r u => u = w ∧ bt r (0 ≤ a.toInt ∧ a.toInt < (c : Int))) := c_Mpayer h.1.1 h.2.2.2.1.symm
theorem cnS_in {f : Nat → Int} (h : ∀ s, s < 6 → 0 ≤ f s ∧ f s ≤ 99) : 0 ≤ cnS f ∧ cnS f ≤ 594 := by
  have h0 := h 0 (by omega); have h1 := h 1 (by omega); have h2 := h 2 (by omega); have h3 := h 3 (by omega); have h4 := h 4 (by omega); have h5 := h 5 (by omega)
  unfold cnS; omega
/-- coins behind a payment of a price; none: it can't be paid -/
noncomputable def gS (L : List Cl) (kd v : Nat → Nat) (ro : Nat → Nat → Int) (A : PS) (p : Nat) (n : Nat) : Option Int := match cS L kd v ro A p n with
  | none => none
  | some y => some (cnS ((nS A p n y).1 p))
theorem gS_0 {n : Nat} (h : cS L kd v ro A p n = none) : gS L kd v ro A p n = none := by unfold gS; rw [h]
theorem gS_1 {n : Nat} {y : List Nat} (h : cS L kd v ro A p n = some y) : gS L kd v ro A p n = some (cnS ((nS A p n y).1 p)) := by unfold gS; rw [h]
def nxS (g : Nat → Option Int) : Nat → Option (Nat × Int)
  | 0 => none
  | k + 1 => match g (k + 1) with
    | none => nxS g k
    | some z => match nxS g k with
      | none => some (k + 1, z)
      | some (q, m) => if z < m then some (k + 1, z) else some (q, m)
theorem ti_30 : (30 : Int32).toInt = 30 := rfl
theorem ti_31 : (31 : Int32).toInt = 31 := rfl
theorem ti_n5 : (-5 : Int32).toInt = -5 := rfl
theorem ti_huge : (1000000000 : Int32).toInt = 1000000000 := rfl
def nxR (o : Option (Nat × Int)) : Int := match o with
  | none => -5
  | some (q, _) => (q : Int)
set_option maxHeartbeats 1000000 in
theorem c_Xnext (hN : 1000 ≤ N) (h : CX w c tp b kd v ob ro L A) (hp : p < c) : ok (f_X_next_l22 N 0 (ob p) (-5) 1000000000 1 w) (fun r u => RF w u ∧ r.toInt = nxR (nxS (gS L kd v ro A p) 30)) := by
  unfold f_X_next_l22
  refine itr_up (fun k q => q.1 = 0 ∧ q.2.1 = ob p ∧ q.2.2.2.2.1.toInt = (k : Int) + 1 ∧ RF w q.2.2.2.2.2 ∧ ((nxS (gS L kd v ro A p) k = none ∧ q.2.2.1.toInt = -5 ∧ q.2.2.2.1.toInt = 1000000000) ∨ ∃ n m, nxS (gS L kd v ro A p) k = some (n, m) ∧ q.2.2.1.toInt = (n : Int) ∧ q.2.2.2.1.toInt = m)) 30 ?_ ?_ N 0 _ (by omega) ?_ (by omega)
  · rintro rec k ⟨b0, b1, a3, a4, a5, u⟩ hk ⟨e0, e1, e2, f, e3⟩ IH
    simp only at e0 e1 e2 f e3
    subst e0 e1
    have hu := h.rf f
    obtain ⟨hS, hca, -⟩ := hu
    have hx := lay_X hS.1
    have k9 : a5.toInt < 2147483647 := by omega
    have n1 : a5.toInt + 1 = ((k + 1 : Nat) : Int) + 1 := by omega
    have e2' : a5.toInt = ((k + 1 : Nat) : Int) := by omega
    refine ok_cdf (by rw [ti_lt, e2, ti_30]; omega) ?_
    simp only [ok_gd, ok_bd, ok_rr1, ok_nr0, ok_nr1, ok_ret, true_and, and_true, not_false_eq_true, sh_sI, sh_sR, sh_sL, gR_sI, gR_sL, gI_sR, gI_sL, sh_cI, gR_cI, hx]
    refine ok_call (hca.choose (price := ((k + 1 : Nat) : Int)) hN hp e2' (by omega)) ?_
    rintro r1 u1 ⟨f1, hca1, hr1⟩
    have fr : RF w u1 := f.tr (scRM f1).rF
    rcases hr1 with ⟨hr1, hcn⟩ | ⟨hr1, y, hcn, hh⟩
    · refine ok_cdt (by rw [ti_eq, hr1, ti_0]) ?_
      simp only [ok_bd]
      refine IH _ ?_
      refine ⟨rfl, rfl, ?_, fr, ?_⟩
      · show (a5 + 1).toInt = _; rw [ti_add1 k9]; exact n1
      · have e : nxS (gS L kd v ro A p) (k + 1) = nxS (gS L kd v ro A p) k := by simp only [nxS, gS_0 hcn]
        rw [e]; exact e3
    · have hx1 := lay_X hca1.1
      refine ok_cdf (by rw [ti_eq, hr1, ti_0]; decide) ?_
      simp only [ok_gd, ok_bd, ok_rr1, ok_nr0, ok_nr1, ok_ret, true_and, and_true, not_false_eq_true, sh_sI, sh_sR, sh_sL, gR_sI, gR_sL, gI_sR, gI_sL, sh_cI, gR_cI, hx1]
      refine ok_call (hca1.behindC hN hp (by omega) hcn hh) ?_
      rintro r2 u2 ⟨rfl, hr2⟩
      have hnr := (nS_rg (kd := kd) (v := v) (ro := ro) hca1.2.2.2.2.2.2.2.2.2.2.1 hca1.2.2.2.2.2.1.2.2.1 hca1.2.2.2.2.2.1.2.2.2.1 (by have := h.2.2.2.2.2.1; omega) hcn (by omega)).1
      have cb := cnS_in (fun s hs => hnr.1 p s (by have := h.2.2.2.2.2.1; omega) hs)
      have eg := gS_1 hcn
      generalize hzz : cnS ((nS A p ((k + 1 : Nat) : Int) y).1 p) = zz at *
      rw [ok_cd]
      refine ⟨fun cc => ?_, fun cc => ?_⟩
      · rw [ti_le, hr2] at cc
        simp only [ok_bd]
        refine IH _ ?_
        refine ⟨rfl, rfl, ?_, fr, ?_⟩
        · show (a5 + 1).toInt = _; rw [ti_add1 k9]; exact n1
        · rcases e3 with ⟨h1, h2, h3⟩ | ⟨n, m, h1, h2, h3⟩
          · omega
          · refine Or.inr ⟨n, m, ?_, h2, h3⟩
            simp only [nxS, eg, h1]; rw [if_neg (by omega)]
      · rw [ti_le, hr2] at cc
        simp only [ok_gd, ok_bd, ok_rr1, ok_nr0, ok_nr1, ok_ret, true_and, and_true, not_false_eq_true, sh_sI, sh_sR, sh_sL, gR_sI, gR_sL, gI_sR, gI_sL, sh_cI, gR_cI, hx1]
        refine ok_call (hca1.behindC hN hp (by omega) hcn hh) ?_
        rintro r3 u3 ⟨rfl, hr3⟩
        simp only [ok_bd]
        refine IH _ ?_
        refine ⟨rfl, rfl, ?_, fr, Or.inr ⟨k + 1, zz, ?_, e2', ?_⟩⟩
        · show (a5 + 1).toInt = _; rw [ti_add1 k9]; exact n1
        · rcases e3 with ⟨h1, h2, h3⟩ | ⟨n, m, h1, h2, h3⟩
          · simp only [nxS, eg, h1]
          · simp only [nxS, eg, h1]; rw [if_pos (by omega)]
        · exact hr3.trans hzz
  · rintro rec ⟨b0, b1, a3, a4, a5, u⟩ ⟨e0, e1, e2, f, e3⟩
    simp only at e0 e1 e2 f e3
    subst e0 e1
    refine ok_cdt (by rw [ti_lt, e2, ti_30]; decide) ?_
    refine ok_ret.mpr ⟨f, ?_⟩
    rcases e3 with ⟨h1, h2, h3⟩ | ⟨n, m, h1, h2, h3⟩
    · rw [h1, h2]; rfl
    · rw [h1, h2]; rfl
  · exact ⟨rfl, rfl, rfl, RF.rf, Or.inl ⟨rfl, rfl, rfl⟩⟩
set_option maxHeartbeats 1000000 in
theorem c_Mnext (hN : 1000 ≤ N) (h : CX w c tp b kd v ob ro L A) (hp : p < c) (h1 : a1.toInt = (p : Int)) : ok (f_M_next_l18 N 133 a1 (-5) 0 1 w) (fun r u => RF w u ∧ r.toInt = nxR (nxS (gS L kd v ro A p) 30)) := by
  unfold f_M_next_l18
  refine itr_up (fun k q => q.1 = 133 ∧ q.2.1 = a1 ∧ q.2.2.2.2.1.toInt = (k : Int) + 1 ∧ RF w q.2.2.2.2.2 ∧ ((nxS (gS L kd v ro A p) k = none ∧ q.2.2.1.toInt = -5) ∨ ∃ n m, nxS (gS L kd v ro A p) k = some (n, m) ∧ q.2.2.1.toInt = ((n : Nat) : Int) ∧ q.2.2.2.1.toInt = m)) 30 ?_ ?_ N 0 _ (by omega) ?_ (by omega)
  · rintro rec k ⟨b0, b1, a2, a3, a4, u⟩ hk ⟨e0, e1, e2, f, e3⟩ IH
    simp only at e0 e1 e2 f e3
    subst e0 e1
    have hu := h.rf f
    obtain ⟨hS, -, hma, -⟩ := hu
    have hm := lay_M hS.1
    have k9 : a4.toInt < 2147483647 := by omega
    have n1 : a4.toInt + 1 = ((k + 1 : Nat) : Int) + 1 := by omega
    have e2' : a4.toInt = ((k + 1 : Nat) : Int) := by omega
    refine ok_cdf (by rw [ti_le, e2, ti_31]; omega) ?_
    simp only [ok_gd, ok_bd, ok_rr1, ok_nr0, ok_nr1, ok_ret, true_and, and_true, not_false_eq_true, sh_sI, sh_sR, sh_sL, gR_sI, gR_sL, gI_sR, gI_sL, sh_cI, gR_cI, hm]
    refine ok_call (hma.could (price := ((k + 1 : Nat) : Int)) hN hp h1 e2' (by omega)) ?_
    rintro r1 u1 ⟨f1, hr1⟩
    have fr : RF w u1 := f.tr f1.rF
    have hm1 := lay_M (h.rf fr).1.1
    rcases hr1 with ⟨hr1, hcn⟩ | ⟨hr1, y, hcn, hh, h38, h39⟩
    · refine ok_cdt (by rw [ti_eq, hr1, ti_0]) ?_
      simp only [ok_bd]
      refine IH _ ?_
      refine ⟨rfl, rfl, ?_, fr, ?_⟩
      · show (a4 + 1).toInt = _; rw [ti_add1 k9]; exact n1
      · have e : nxS (gS L kd v ro A p) (k + 1) = nxS (gS L kd v ro A p) k := by simp only [nxS, gS_0 hcn]
        rw [e]; exact e3
    · refine ok_cdf (by rw [ti_eq, hr1, ti_0]; decide) ?_
      have eg := gS_1 hcn
      generalize cnS ((nS A p ((k + 1 : Nat) : Int) y).1 p) = zz at *
      have take : nxS (gS L kd v ro A p) (k + 1) = some (k + 1, zz) → ok (f_M_next_b50 N rec 133 b1 a4 u1) (fun r u => RF w u ∧ r.toInt = nxR (nxS (gS L kd v ro A p) 30)) := by
        intro hnx
        unfold f_M_next_b50
        simp only [ok_gd, ok_bd, ok_rr1, ok_nr0, ok_nr1, ok_ret, true_and, and_true, not_false_eq_true, sh_sI, sh_sR, sh_sL, gR_sI, gR_sL, gI_sR, gI_sL, sh_cI, gR_cI, hm1]
        refine IH _ ?_
        refine ⟨rfl, rfl, ?_, fr, Or.inr ⟨k + 1, zz, hnx, e2', h39⟩⟩
        show (a4 + 1).toInt = _; rw [ti_add1 k9]; exact n1
      rw [ok_cd]
      refine ⟨fun cc => ?_, fun cc => ?_⟩
      · rw [ti_lt, ti_0] at cc
        rcases e3 with ⟨g1, g2⟩ | ⟨n, m, g1, g2, g3⟩
        · exact take (by simp only [nxS, eg, g1])
        · omega
      · rw [ti_lt, ti_0] at cc
        rcases e3 with ⟨g1, g2⟩ | ⟨n, m, g1, g2, g3⟩
        · omega
        simp only [ok_gd, ok_bd, ok_rr1, ok_nr0, ok_nr1, ok_ret, true_and, and_true, not_false_eq_true, sh_sI, sh_sR, sh_sL, gR_sI, gR_sL, gI_sR, gI_sL, sh_cI, gR_cI, hm1]
        rw [ok_cd]
        refine ⟨fun d => ?_, fun d => ?_⟩
        · rw [ti_lt, h39, g3] at d
          exact take (by simp only [nxS, eg, g1]; rw [if_pos d])
        · rw [ti_lt, h39, g3] at d
          simp only [ok_bd]
          refine IH _ ?_
          refine ⟨rfl, rfl, ?_, fr, Or.inr ⟨n, m, ?_, g2, g3⟩⟩
          · show (a4 + 1).toInt = _; rw [ti_add1 k9]; exact n1
          · simp only [nxS, eg, g1]; rw [if_neg d]
  · rintro rec ⟨b0, b1, a2, a3, a4, u⟩ ⟨e0, e1, e2, f, e3⟩
    simp only at e0 e1 e2 f e3
    subst e0 e1
    refine ok_cdt (by rw [ti_le, e2, ti_31]; decide) ?_
    refine ok_ret.mpr ⟨f, ?_⟩
    rcases e3 with ⟨g1, g2⟩ | ⟨n, m, g1, g2, g3⟩
    · rw [g1, g2]; rfl
    · rw [g1, g2]; rfl
  · exact ⟨rfl, rfl, rfl, RF.rf, Or.inl ⟨rfl, rfl⟩⟩
theorem p_next (hN : 1000 ≤ N) (h : Sim w) : ok (f_X_next N 0 a1 w) (fun r w1 => ok (f_M_next N 133 a1 w1) (fun r' w2 => r = r' ∧ Sim w2)) := by
  obtain ⟨c, tp, b, kd, v, ob, ro, L, A, hx0⟩ := h.cx
  have hx := lay_X h.1
  unfold f_X_next f_X_next_b0
  simp only [ok_gd, ok_bd, ok_rr1, ok_nr0, ok_nr1, ok_ret, true_and, and_true, not_false_eq_true, sh_sI, sh_sR, sh_sL, gR_sI, gR_sL, gI_sR, gI_sL, sh_cI, gR_cI, hx]
  refine ok_call hx0.xp ?_
  rintro r u ⟨rfl, hr⟩
  rcases hr with ⟨p, hp, ha, rfl⟩ | ⟨hr, rfl⟩
  · simp only [ok_gd, ok_bd, ok_rr1, ok_nr0, ok_nr1, ok_ret, true_and, and_true, not_false_eq_true, sh_sI, sh_sR, sh_sL, gR_sI, gR_sL, gI_sR, gI_sL, sh_cI, gR_cI]
    refine (c_Xnext hN hx0 hp).mono ?_
    rintro r1 u1 ⟨f1, hr1⟩
    have hx1 := hx0.rf f1
    have hm := lay_M hx1.1.1
    unfold f_M_next f_M_next_b0
    simp only [ok_gd, ok_bd, ok_rr1, ok_nr0, ok_nr1, ok_ret, true_and, and_true, not_false_eq_true, sh_sI, sh_sR, sh_sL, gR_sI, gR_sL, gI_sR, gI_sL, sh_cI, gR_cI, hm]
    refine ok_call hx1.mp ?_
    rintro r2 u2 ⟨rfl, hr2⟩
    refine ok_cdf (fun z => (hr2.z.mp z) (by omega)) ?_
    refine (c_Mnext hN hx1 hp ha).mono ?_
    rintro r3 u3 ⟨f3, hr3⟩
    exact ⟨ti_eq.mpr (by rw [hr1, hr3]), hx1.1.rf f3⟩
  · simp only [ok_gd, ok_bd, ok_rr1, ok_nr0, ok_nr1, ok_ret, true_and, and_true, not_false_eq_true, sh_sI, sh_sR, sh_sL, gR_sI, gR_sL, gI_sR, gI_sL, sh_cI, gR_cI]
    have hm := lay_M h.1
    unfold f_M_next f_M_next_b0
    simp only [ok_gd, ok_bd, ok_rr1, ok_nr0, ok_nr1, ok_ret, true_and, and_true, not_false_eq_true, sh_sI, sh_sR, sh_sL, gR_sI, gR_sL, gI_sR, gI_sL, sh_cI, gR_cI, hm]
    refine ok_call hx0.mp ?_
    rintro r2 u2 ⟨rfl, hr2⟩
    exact ok_cdt (hr2.z.mpr hr) (ok_ret.mpr ⟨rfl, h⟩)
end NEXT
