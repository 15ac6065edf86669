/-! ===== fits =====  -/
section FITS
variable {N c tp b p n : Nat} {w u z : gW} {kd v ob : Nat → Nat} {ro : Nat → Nat → Int} {L : List Cl} {A : PS} {a a1 a2 : Int32} {sp : Nat → Nat} {sc : Nat → Int}
/-- what is SEEN, as both hold it -/
def SEE (w : gW) (n : Nat) (sp : Nat → Nat) (sc : Nat → Int) : Prop := n ≤ 4 ∧ (gI w 9 10).toInt = (n : Int) ∧ (gI w 133 43).toInt = (n : Int) ∧ ∀ i, i < 4 → (gI w 24 i).toInt = (sp i : Int) ∧ (gI w 162 i).toInt = (sp i : Int) ∧ (gI w 25 i).toInt = sc i ∧ (gI w 163 i).toInt = sc i ∧ sp i ≤ 199
theorem Sim.see (h : Sim w) : SEE w (gI w 133 43).toInt.toNat (fun i => (gI w 162 i).toInt.toNat) (fun i => (gI w 163 i).toInt) := by
  have h1 : 0 ≤ (gI w 133 43).toInt ∧ (gI w 133 43).toInt ≤ 4 := h.2.1.aseer
  have h2 : gI w 9 10 = gI w 133 43 := h.2.1.asee
  refine ⟨by omega, by rw [h2]; omega, by omega, fun i hi => ?_⟩
  have e1 : gI w 24 i = gI w 162 i := h.2.1.asp i hi
  have e2 : gI w 25 i = gI w 163 i := h.2.1.asc i hi
  have r1 : 0 ≤ (gI w 162 i).toInt ∧ (gI w 162 i).toInt ≤ 199 := h.2.1.aspr i hi
  rw [e1, e2]
  simp only
  refine ⟨by omega, by omega, trivial, trivial, by omega⟩
theorem SEE.rf (h : SEE w n sp sc) (f : RF w u) : SEE u n sp sc := by
  obtain ⟨h1, h2, h3, h4⟩ := h
  have g := f.1
  refine ⟨h1, by rw [g.i (ru_o (by omega) (by omega))]; exact h2, by rw [g.c ⟨by decide, by decide⟩]; exact h3, fun i hi => ?_⟩
  rw [g.i (ru_o (by omega) (by omega)), g.i ⟨by decide, by decide⟩, g.i (ru_o (by omega) (by omega)), g.i ⟨by decide, by decide⟩]
  exact h4 i hi
def ftP (g : Nat → Option Int) (sp : Nat → Nat) (sc : Nat → Int) (i : Nat) : Prop := g (sp i) = some (sc i)
set_option maxRecDepth 20000 in
theorem lay_F (h : Lay w) : sh w 0 = (11, 0) ∧ sh w 9 = (9, 0) ∧ sh w 10 = (54, 4) ∧ sh w 66 = (10, 0) ∧ gR w 0 1 = some 9 ∧ gR w 0 5 = some 66 ∧ gR w 9 0 = some 10 ∧ gR w 9 8 = some 24 ∧ gR w 9 9 = some 25 ∧ sh w 24 = (50, 4) ∧ sh w 25 = (50, 4) ∧ sh w 133 = (12, 0) ∧ gR w 133 44 = some 162 ∧ gR w 133 45 = some 163 ∧ sh w 162 = (50, 4) ∧ sh w 163 = (50, 4) := ⟨h.1 0 (by decide), h.1 9 (by decide), h.1 10 (by decide), h.1 66 (by decide), h.2.1 (0, 1, 9) (by decide), h.2.1 (0, 5, 66) (by decide), h.2.1 (9, 0, 10) (by decide), h.2.1 (9, 8, 24) (by decide), h.2.1 (9, 9, 25) (by decide), h.1 24 (by decide), h.1 25 (by decide), h.1 133 (by decide), h.2.1 (133, 44, 162) (by decide), h.2.1 (133, 45, 163) (by decide), h.1 162 (by decide), h.1 163 (by decide)⟩
set_option maxHeartbeats 1000000 in
theorem c_Xfa (hN : 1000 ≤ N) (h : CX w c tp b kd v ob ro L A) (hse : SEE w n sp sc) (hp : p < c) : ok (f_X_fitsAllSeen N 0 (ob p) w) (fun r u => RF w u ∧ bt r (∀ i, i < n → ftP (gS L kd v ro A p) sp sc i)) := by
  have hn4 := hse.1
  unfold f_X_fitsAllSeen f_X_fitsAllSeen_b0 f_X_fitsAllSeen_l2
  refine itr_up (fun k q => q.1 = 0 ∧ q.2.1 = ob p ∧ q.2.2.1.toInt = (k : Int) ∧ RF w q.2.2.2 ∧ ∀ i, i < k → ftP (gS L kd v ro A p) sp sc i) n ?_ ?_ N 0 _ (by omega) ?_ (by omega)
  · rintro rec k ⟨b0, b1, a2, u⟩ hk ⟨e0, e1, e5, f, e4⟩ IH
    simp only at e0 e1 e5 f
    subst e0 e1
    obtain ⟨hS, hca, -⟩ := h.rf f
    obtain ⟨-, s2, -, s4⟩ := hse.rf f
    obtain ⟨s5, -, s6, -, s7⟩ := s4 k (by omega)
    have hx := lay_F hS.1
    have k9 : k < 2147483647 := by omega
    have n5 := nat_of e5
    have g5 := ix_of (m := 4) e5 (by omega)
    rw [n5] at g5
    show ok (f_X_fitsAllSeen_b2 N rec 0 (ob p) a2 u) _
    unfold f_X_fitsAllSeen_b2
    simp only [ok_gd, ok_bd, ok_rr1, ok_nr0, ok_nr1, ok_ret, true_and, and_true, not_false_eq_true, sh_sI, sh_sR, sh_sL, gR_sI, gR_sL, gI_sR, gI_sL, sh_cI, gR_cI, hx]
    refine ok_cdf (by rw [ti_le, s2, e5]; omega) ?_
    simp only [ok_gd, ok_bd, ok_rr1, ok_nr0, ok_nr1, ok_ret, true_and, and_true, not_false_eq_true, sh_sI, sh_sR, sh_sL, gR_sI, gR_sL, gI_sR, gI_sL, sh_cI, gR_cI, hx, n5, g5]
    refine ok_call (hca.choose hN hp s5 (by omega)) ?_
    rintro r1 u1 ⟨f1, hca1, hr1⟩
    have fr : RF w u1 := f.tr (scRM f1).rF
    rcases hr1 with ⟨hr1, hcn⟩ | ⟨hr1, y, hcn, hh⟩
    · refine ok_cdt (by rw [ti_eq, hr1, ti_0]) (ok_ret.mpr ⟨fr, Or.inr ⟨ti_0, fun z => ?_⟩⟩)
      have := z k hk
      unfold ftP at this
      rw [gS_0 hcn] at this; cases this
    · have hx1 := lay_F hca1.1
      have s6' : (gI u1 25 k).toInt = sc k := by rw [f1.i ⟨by decide, by decide⟩]; exact s6
      refine ok_cdf (by rw [ti_eq, hr1, ti_0]; decide) ?_
      simp only [ok_gd, ok_bd, ok_rr1, ok_nr0, ok_nr1, ok_ret, true_and, and_true, not_false_eq_true, sh_sI, sh_sR, sh_sL, gR_sI, gR_sL, gI_sR, gI_sL, sh_cI, gR_cI, hx1]
      refine ok_call (hca1.behindC hN hp (by omega) hcn hh) ?_
      rintro r2 u2 ⟨rfl, hr2⟩
      have eg := gS_1 hcn
      simp only [ok_gd, ok_bd, ok_rr1, ok_nr0, ok_nr1, ok_ret, true_and, and_true, not_false_eq_true, sh_sI, sh_sR, sh_sL, gR_sI, gR_sL, gI_sR, gI_sL, sh_cI, gR_cI, hx1, n5, g5]
      rw [ok_cd]
      refine ⟨fun cc => ?_, fun cc => ?_⟩
      · rw [ti_eq, hr2, s6'] at cc
        simp only [ok_bd]
        refine IH _ ?_
        refine ⟨rfl, rfl, ti_p1 e5 k9, fr, fun i hi => ?_⟩
        by_cases e : i = k
        · rw [e]; unfold ftP; rw [eg, cc]
        · exact e4 i (by omega)
      · rw [ti_eq, hr2, s6'] at cc
        refine ok_ret.mpr ⟨fr, Or.inr ⟨ti_0, fun z => ?_⟩⟩
        have := z k hk
        unfold ftP at this
        rw [eg] at this
        exact cc (Option.some.inj this)
  · rintro rec ⟨b0, b1, a2, u⟩ ⟨e0, e1, e5, f, e4⟩
    simp only at e0 e1 e5 f
    subst e0 e1
    obtain ⟨hS, hca, -⟩ := h.rf f
    obtain ⟨-, s2, -, s4⟩ := hse.rf f
    have hx := lay_F hS.1
    show ok (f_X_fitsAllSeen_b2 N rec 0 (ob p) a2 u) _
    unfold f_X_fitsAllSeen_b2
    simp only [ok_gd, ok_bd, ok_rr1, ok_nr0, ok_nr1, ok_ret, true_and, and_true, not_false_eq_true, sh_sI, sh_sR, sh_sL, gR_sI, gR_sL, gI_sR, gI_sL, sh_cI, gR_cI, hx]
    exact ok_cdt (by rw [ti_le, s2, e5]; omega) (ok_ret.mpr ⟨f, Or.inl ⟨ti_1, e4⟩⟩)
  · exact ⟨rfl, rfl, rfl, RF.rf, fun i hi => absurd hi (by omega)⟩
set_option maxHeartbeats 1000000 in
theorem c_Mfa {Q : Int32 → gW → Prop} {rec4 : Nat × Int32 × Int32 × gW → Option (Int32 × gW)} (hN : 1000 ≤ N) (h : CX w c tp b kd v ob ro L A) (hse : SEE w n sp sc) (hp : p < c) (h2 : a2.toInt = (p : Int))
    (hQ : ∀ (u : gW) (a3 : Int32), RF w u → bt a3 (∀ i, i < n → ftP (gS L kd v ro A p) sp sc i) → ok (f_M_fits_b71 N rec4 133 a1 a2 a3 u) Q) : ok (f_M_fits_l17 N rec4 133 a1 a2 1 0 w) Q := by
  have hn4 := hse.1
  unfold f_M_fits_l17
  refine itr_up (fun k q => q.1 = 133 ∧ q.2.1 = a1 ∧ q.2.2.1 = a2 ∧ q.2.2.2.2.1.toInt = (k : Int) ∧ RF w q.2.2.2.2.2 ∧ bt q.2.2.2.1 (∀ i, i < k → ftP (gS L kd v ro A p) sp sc i)) n ?_ ?_ N 0 _ (by omega) ?_ (by omega)
  · rintro rec k ⟨b0, b1, b2, a3, a4, u⟩ hk ⟨e0, e1, e2, e5, f, e4⟩ IH
    simp only at e0 e1 e2 e5 f e4
    subst e0 e1 e2
    obtain ⟨hS, -, hma, -⟩ := h.rf f
    obtain ⟨-, -, s2, s4⟩ := hse.rf f
    obtain ⟨-, s5, -, s6, s7⟩ := s4 k (by omega)
    have hx := lay_F hS.1
    have k9 : k < 2147483647 := by omega
    have n5 := nat_of e5
    have g5 := ix_of (m := 4) e5 (by omega)
    rw [n5] at g5
    show ok (f_M_fits_b17 N rec4 rec 133 b1 b2 a3 a4 u) _
    unfold f_M_fits_b17
    simp only [ok_gd, ok_bd, ok_rr1, ok_nr0, ok_nr1, ok_ret, true_and, and_true, not_false_eq_true, sh_sI, sh_sR, sh_sL, gR_sI, gR_sL, gI_sR, gI_sL, sh_cI, gR_cI, hx]
    refine ok_cdf (by rw [ti_le, s2, e5]; omega) ?_
    rw [ok_cd]
    refine ⟨fun cc => ?_, fun cc => ?_⟩
    · have hno := e4.z.mp cc
      exact hQ u a3 f (Or.inr ⟨by rw [ti_eq, ti_0] at cc; exact cc, fun z => hno (fun i hi => z i (by omega))⟩)
    · have hall := Classical.not_not.mp (fun z => cc (e4.z.mpr z))
      simp only [ok_gd, ok_bd, ok_rr1, ok_nr0, ok_nr1, ok_ret, true_and, and_true, not_false_eq_true, sh_sI, sh_sR, sh_sL, gR_sI, gR_sL, gI_sR, gI_sL, sh_cI, gR_cI, hx, n5, g5]
      refine ok_call (hma.could hN hp h2 s5 (by omega)) ?_
      rintro r1 u1 ⟨f1, hr1⟩
      have fr : RF w u1 := f.tr f1.rF
      have hx1 := lay_F (h.rf fr).1.1
      rcases hr1 with ⟨hr1, hcn⟩ | ⟨hr1, y, hcn, hh, h38, h39⟩
      · refine ok_cdt (by rw [ti_eq, hr1, ti_0]) ?_
        simp only [ok_bd]
        refine IH _ ?_
        refine ⟨rfl, rfl, rfl, ti_p1 e5 k9, fr, Or.inr ⟨ti_0, fun z => ?_⟩⟩
        have := z k (by omega)
        unfold ftP at this
        rw [gS_0 hcn] at this; cases this
      · have eg := gS_1 hcn
        have s6' : (gI u1 163 k).toInt = sc k := ((hse.rf fr).2.2.2 k (by omega)).2.2.2.1
        refine ok_cdf (by rw [ti_eq, hr1, ti_0]; decide) ?_
        simp only [ok_gd, ok_bd, ok_rr1, ok_nr0, ok_nr1, ok_ret, true_and, and_true, not_false_eq_true, sh_sI, sh_sR, sh_sL, gR_sI, gR_sL, gI_sR, gI_sL, sh_cI, gR_cI, hx1, n5, g5]
        rw [ok_cd]
        refine ⟨fun d => ?_, fun d => ?_⟩
        · rw [ti_eq, h39, s6'] at d
          simp only [ok_bd]
          refine IH _ ?_
          refine ⟨rfl, rfl, rfl, ti_p1 e5 k9, fr, Or.inl ⟨ti_1, fun i hi => ?_⟩⟩
          by_cases e : i = k
          · rw [e]; unfold ftP; rw [eg, d]
          · exact hall i (by omega)
        · rw [ti_eq, h39, s6'] at d
          simp only [ok_bd]
          refine IH _ ?_
          refine ⟨rfl, rfl, rfl, ti_p1 e5 k9, fr, Or.inr ⟨ti_0, fun z => ?_⟩⟩
          have := z k (by omega)
          unfold ftP at this
          rw [eg] at this
          exact d (Option.some.inj this)
  · rintro rec ⟨b0, b1, b2, a3, a4, u⟩ ⟨e0, e1, e2, e5, f, e4⟩
    simp only at e0 e1 e2 e5 f e4
    subst e0 e1 e2
    obtain ⟨hS, -, hma, -⟩ := h.rf f
    obtain ⟨-, -, s2, s4⟩ := hse.rf f
    have hx := lay_F hS.1
    show ok (f_M_fits_b17 N rec4 rec 133 b1 b2 a3 a4 u) _
    unfold f_M_fits_b17
    simp only [ok_gd, ok_bd, ok_rr1, ok_nr0, ok_nr1, ok_ret, true_and, and_true, not_false_eq_true, sh_sI, sh_sR, sh_sL, gR_sI, gR_sL, gI_sR, gI_sL, sh_cI, gR_cI, hx]
    exact ok_cdt (by rw [ti_le, s2, e5]; omega) (hQ u a3 f e4)
  · exact ⟨rfl, rfl, rfl, rfl, RF.rf, Or.inl ⟨ti_1, fun i hi => absurd hi (by omega)⟩⟩
noncomputable def fbS (F : Nat → Prop) : Nat → Int32
  | 0 => 0
  | k + 1 => @ite _ (F k) (Classical.propDecidable _) (fbS F k ||| (1 <<< (nI k &&& 31))) (fbS F k)
theorem fbS_s {F : Nat → Prop} {k : Nat} : fbS F (k + 1) = @ite _ (F k) (Classical.propDecidable _) (fbS F k ||| (1 <<< (nI k &&& 31))) (fbS F k) := rfl
theorem fbS_1 {F : Nat → Prop} {k : Nat} (h : F k) : fbS F (k + 1) = fbS F k ||| (1 <<< (nI k &&& 31)) := by rw [fbS_s, if_pos h]
theorem fbS_0 {F : Nat → Prop} {k : Nat} (h : ¬ F k) : fbS F (k + 1) = fbS F k := by rw [fbS_s, if_neg h]
theorem p_fits (hN : 1000 ≤ N) (h : Sim w) : ok (f_X_fits N 0 w) (fun r w1 => ok (f_M_fits N 133 w1) (fun r' w2 => r = r' ∧ Sim w2)) := by
  obtain ⟨c, tp, b, kd, v, ob, ro, L, A, hx0⟩ := h.cx
  have hse := h.see
  generalize (gI w 133 43).toInt.toNat = n at hse
  generalize (fun i => (gI w 162 i).toInt.toNat) = sp at hse
  generalize (fun i => (gI w 163 i).toInt) = sc at hse
  have hc4 : c ≤ 4 := hx0.2.2.2.2.2.1
  generalize hF : (fun p => ∀ i, i < n → ftP (gS L kd v ro A p) sp sc i) = F
  have hF' : ∀ p, F p = ∀ i, i < n → ftP (gS L kd v ro A p) sp sc i := fun p => by rw [← hF]
  have X : ok (f_X_fits N 0 w) (fun r u => RF w u ∧ r = fbS F c) := by
    unfold f_X_fits f_X_fits_b0 f_X_fits_l4
    refine itr_up (fun k q => q.1 = 0 ∧ q.2.1 = fbS F k ∧ q.2.2.1.toInt = (k : Int) ∧ RF w q.2.2.2) c ?_ ?_ N 0 _ (by omega) ?_ (by omega)
    · rintro rec k ⟨b0, a1, a2, u⟩ hk ⟨e0, e1, e5, f⟩ IH
      simp only at e0 e1 e5 f
      subst e0 e1
      have hxu := h
      have hcx := hx0.rf f
      have hx := lay_F hcx.1.1
      have k9 : k < 2147483647 := by omega
      have n5 := nat_of e5
      have g5 := ix_of (m := 4) e5 (by omega)
      rw [n5] at g5
      show ok (f_X_fits_b4 N rec 0 (fbS F k) a2 u) _
      unfold f_X_fits_b4
      simp only [ok_gd, ok_bd, ok_rr1, ok_nr0, ok_nr1, ok_ret, true_and, and_true, not_false_eq_true, sh_sI, sh_sR, sh_sL, gR_sI, gR_sL, gI_sR, gI_sL, sh_cI, gR_cI, hx]
      refine ok_cdf (by rw [ti_le, hcx.2.2.2.2.1, e5]; omega) ?_
      simp only [ok_gd, ok_bd, ok_rr1, ok_nr0, ok_nr1, ok_ret, true_and, and_true, not_false_eq_true, sh_sI, sh_sR, sh_sL, gR_sI, gR_sL, gI_sR, gI_sL, sh_cI, gR_cI, hx, n5, g5, hcx.2.2.2.2.2.2 k hk]
      refine ok_call (c_Xfa hN hcx (hse.rf f) hk) ?_
      rintro r1 u1 ⟨f1, hr1⟩
      rw [← hF'] at hr1
      rw [ok_cd]
      refine ⟨fun cc => ?_, fun cc => ?_⟩
      · have := hr1.z.mp cc
        simp only [ok_bd]
        refine IH _ ?_
        exact ⟨rfl, (fbS_0 this).symm, ti_p1 e5 k9, f.tr f1⟩
      · have := Classical.not_not.mp (fun z => cc (hr1.z.mpr z))
        simp only [ok_bd]
        refine IH _ ?_
        exact ⟨rfl, by rw [fbS_1 this, ← nI_ti e5], ti_p1 e5 k9, f.tr f1⟩
    · rintro rec ⟨b0, a1, a2, u⟩ ⟨e0, e1, e5, f⟩
      simp only at e0 e1 e5 f
      subst e0 e1
      have hcx := hx0.rf f
      have hx := lay_F hcx.1.1
      show ok (f_X_fits_b4 N rec 0 (fbS F c) a2 u) _
      unfold f_X_fits_b4
      simp only [ok_gd, ok_bd, ok_rr1, ok_nr0, ok_nr1, ok_ret, true_and, and_true, not_false_eq_true, sh_sI, sh_sR, sh_sL, gR_sI, gR_sL, gI_sR, gI_sL, sh_cI, gR_cI, hx]
      exact ok_cdt (by rw [ti_le, hcx.2.2.2.2.1, e5]; omega) (ok_ret.mpr ⟨f, rfl⟩)
    · exact ⟨rfl, rfl, rfl, RF.rf⟩
  refine X.mono ?_
  rintro r u0 ⟨f0, rfl⟩
  have hx1 := hx0.rf f0
  have hse1 := hse.rf f0
  have M : ok (f_M_fits N 133 u0) (fun r u => RF u0 u ∧ r = fbS F c) := by
    unfold f_M_fits f_M_fits_b0 f_M_fits_l4
    refine itr_up (fun k q => q.1 = 133 ∧ q.2.1 = fbS F k ∧ q.2.2.1.toInt = (k : Int) ∧ RF u0 q.2.2.2) c ?_ ?_ N 0 _ (by omega) ?_ (by omega)
    · rintro rec k ⟨b0, a1, a2, u⟩ hk ⟨e0, e1, e5, f⟩ IH
      simp only at e0 e1 e5 f
      subst e0 e1
      have hcx := hx1.rf f
      have hx := lay_F hcx.1.1
      have k9 : k < 2147483647 := by omega
      show ok (f_M_fits_b4 N rec 133 (fbS F k) a2 u) _
      unfold f_M_fits_b4
      simp only [ok_gd, ok_bd, ok_rr1, ok_nr0, ok_nr1, ok_ret, true_and, and_true, not_false_eq_true, sh_sI, sh_sR, sh_sL, gR_sI, gR_sL, gI_sR, gI_sL, sh_cI, gR_cI, hx]
      refine ok_cdf (by rw [ti_le, ← hcx.2.2.2.1, e5]; omega) ?_
      refine c_Mfa hN hcx (hse1.rf f) hk e5 (fun u2 a3 f2 hb => ?_)
      rw [← hF'] at hb
      unfold f_M_fits_b71
      rw [ok_cd]
      refine ⟨fun cc => ?_, fun cc => ?_⟩
      · have := hb.z.mp cc
        simp only [ok_bd]
        refine IH _ ?_
        exact ⟨rfl, by rw [fbS_0 this]; simp, ti_p1 e5 k9, f.tr f2⟩
      · have := Classical.not_not.mp (fun z => cc (hb.z.mpr z))
        simp only [ok_bd]
        refine IH _ ?_
        exact ⟨rfl, by rw [fbS_1 this, ← nI_ti e5], ti_p1 e5 k9, f.tr f2⟩
    · rintro rec ⟨b0, a1, a2, u⟩ ⟨e0, e1, e5, f⟩
      simp only at e0 e1 e5 f
      subst e0 e1
      have hcx := hx1.rf f
      have hx := lay_F hcx.1.1
      show ok (f_M_fits_b4 N rec 133 (fbS F c) a2 u) _
      unfold f_M_fits_b4
      simp only [ok_gd, ok_bd, ok_rr1, ok_nr0, ok_nr1, ok_ret, true_and, and_true, not_false_eq_true, sh_sI, sh_sR, sh_sL, gR_sI, gR_sL, gI_sR, gI_sL, sh_cI, gR_cI, hx]
      exact ok_cdt (by rw [ti_le, ← hcx.2.2.2.1, e5]; omega) (ok_ret.mpr ⟨f, rfl⟩)
    · exact ⟨rfl, rfl, rfl, RF.rf⟩
  refine M.mono ?_
  rintro r' u2 ⟨f2, rfl⟩
  exact ⟨rfl, hx1.1.rf f2⟩
end FITS
