/-! ===== looked =====  -/
section LOOKED
variable {N c tp b p n : Nat} {w u z : gW} {kd v ob : Nat → Nat} {ro : Nat → Nat → Int} {L : List Cl} {A : PS} {bw bp : Nat → Nat}
/-- the BOOK, as both hold it -/
def BOO (w : gW) (n c : Nat) (bw bp : Nat → Nat) : Prop := n ≤ 8 ∧ (gI w 9 13).toInt = (n : Int) ∧ (gI w 133 46).toInt = (n : Int) ∧ ∀ i, i < n → (gI w 26 i).toInt = (bw i : Int) ∧ (gI w 164 i).toInt = (bw i : Int) ∧ (gI w 27 i).toInt = (bp i : Int) ∧ (gI w 165 i).toInt = (bp i : Int) ∧ bw i < c ∧ bp i ≤ 199
theorem Sim.boo (h : Sim w) (hc : (c : Int) = (gI w 133 0).toInt) : BOO w (gI w 133 46).toInt.toNat c (fun i => (gI w 164 i).toInt.toNat) (fun i => (gI w 165 i).toInt.toNat) := by
  have h1 : 0 ≤ (gI w 133 46).toInt ∧ (gI w 133 46).toInt ≤ 8 := h.2.1.abokr
  have h2 : gI w 9 13 = gI w 133 46 := h.2.1.abok
  refine ⟨by omega, by rw [h2]; omega, by omega, fun i hi => ?_⟩
  have e1 : gI w 26 i = gI w 164 i := h.2.1.abw i (by omega)
  have e2 : gI w 27 i = gI w 165 i := h.2.1.abp i (by omega)
  have r1 : 0 ≤ (gI w 164 i).toInt ∧ (gI w 164 i).toInt ≤ 3 := h.2.1.abwr i (by omega)
  have r2 : 0 ≤ (gI w 165 i).toInt ∧ (gI w 165 i).toInt ≤ 199 := h.2.1.abpr i (by omega)
  have r3 := h.2.1.abwl i (by omega) (by omega)
  rw [e1, e2]
  simp only
  omega
theorem BOO.rf (h : BOO w n c bw bp) (f : RF w u) : BOO u n c bw bp := by
  obtain ⟨h1, h2, h3, h4⟩ := h
  have g := f.1
  refine ⟨h1, by rw [g.i (ru_o (by omega) (by omega))]; exact h2, by rw [g.c ⟨by decide, by decide⟩]; exact h3, fun i hi => ?_⟩
  rw [g.i (ru_o (by omega) (by omega)), g.i ⟨by decide, by decide⟩, g.i (ru_o (by omega) (by omega)), g.i ⟨by decide, by decide⟩]
  exact h4 i hi
noncomputable def lkR (L : List Cl) (kd v : Nat → Nat) (ro : Nat → Nat → Int) (bw bp : Nat → Nat) : Nat → PS → Nat → Int
  | 0, _, _ => -5
  | d + 1, A, k => match cS L kd v ro A (bw k) (bp k) with
    | none => (k : Int)
    | some y => lkR L kd v ro bw bp d (nS A (bw k) (bp k) y) (k + 1)
theorem lkR_n {d k : Nat} (h : cS L kd v ro A (bw k) (bp k) = none) : lkR L kd v ro bw bp (d + 1) A k = (k : Int) := by simp only [lkR, h]
theorem lkR_s {d k : Nat} {y : List Nat} (h : cS L kd v ro A (bw k) (bp k) = some y) : lkR L kd v ro bw bp (d + 1) A k = lkR L kd v ro bw bp d (nS A (bw k) (bp k) y) (k + 1) := by simp only [lkR, h]
set_option maxRecDepth 20000 in
theorem lay_K (h : Lay w) : sh w 0 = (11, 0) ∧ sh w 9 = (9, 0) ∧ sh w 47 = (9, 0) ∧ sh w 66 = (10, 0) ∧ gR w 0 1 = some 9 ∧ gR w 0 3 = some 47 ∧ gR w 0 5 = some 66 ∧ gR w 47 11 = some 64 ∧ gR w 47 12 = some 65 ∧ sh w 64 = (50, 8) ∧ sh w 65 = (50, 8) ∧ sh w 133 = (12, 0) ∧ gR w 133 47 = some 164 ∧ gR w 133 48 = some 165 ∧ sh w 164 = (50, 8) ∧ sh w 165 = (50, 8) := ⟨h.1 0 (by decide), h.1 9 (by decide), h.1 47 (by decide), h.1 66 (by decide), h.2.1 (0, 1, 9) (by decide), h.2.1 (0, 3, 47) (by decide), h.2.1 (0, 5, 66) (by decide), h.2.1 (47, 11, 64) (by decide), h.2.1 (47, 12, 65) (by decide), h.1 64 (by decide), h.1 65 (by decide), h.1 133 (by decide), h.2.1 (133, 47, 164) (by decide), h.2.1 (133, 48, 165) (by decide), h.1 164 (by decide), h.1 165 (by decide)⟩
set_option maxHeartbeats 1000000 in
theorem c_Xlooked (hN : 1000 ≤ N) (h : CX w c tp b kd v ob ro L A) (hbo : BOO w n c bw bp) : ok (f_X_looked N 0 w) (fun r u => RF w u ∧ r.toInt = lkR L kd v ro bw bp n A 0) := by
  have hn8 := hbo.1
  have hc4 : c ≤ 4 := h.2.2.2.2.2.1
  have hx := lay_K h.1.1
  generalize hR : lkR L kd v ro bw bp n A 0 = R
  unfold f_X_looked f_X_looked_b0
  simp only [ok_gd, ok_bd, ok_rr1, ok_nr0, ok_nr1, ok_ret, true_and, and_true, not_false_eq_true, sh_sI, sh_sR, sh_sL, gR_sI, gR_sL, gI_sR, gI_sL, sh_cI, gR_cI, hx]
  refine ok_call (h.tri hN) ?_
  rintro - u0 ⟨f0, hca0, hr0⟩
  have t13 : (gI u0 47 13).toInt = (n : Int) := by rw [hr0.2.2.2.2.2.2.2.2.2.1]; exact hbo.2.1
  have t64 : ∀ i, i < n → (gI u0 64 i).toInt = (bw i : Int) := fun i hi => by rw [hr0.2.2.2.2.1 i (by omega)]; exact (hbo.2.2.2 i hi).1
  have t65 : ∀ i, i < n → (gI u0 65 i).toInt = (bp i : Int) := fun i hi => by rw [hr0.2.2.2.2.2.1 i (by omega)]; exact (hbo.2.2.2 i hi).2.2.1
  unfold f_X_looked_l13
  refine itr_up (fun k q => q.1 = 0 ∧ q.2.1.toInt = (k : Int) ∧ RF w q.2.2 ∧ (gI q.2.2 47 13).toInt = (n : Int) ∧ (∀ i, i < n → (gI q.2.2 64 i).toInt = (bw i : Int)) ∧ (∀ i, i < n → (gI q.2.2 65 i).toInt = (bp i : Int)) ∧ ∃ A', CA q.2.2 47 c tp kd v ob ro L A' ∧ lkR L kd v ro bw bp (n - k) A' k = R) n ?_ ?_ N 0 _ (by omega) ?_ (by omega)
  · rintro rec k ⟨b0, a1, u⟩ hk ⟨e0, e5, f, e13, e64, e65, A', hca, eR⟩ IH
    simp only at e0 e5 f e13 e64 e65 hca
    subst e0
    have hcx := h.rf f
    have hx := lay_K hca.1
    have k9 : k < 2147483647 := by omega
    have n5 := nat_of e5
    have g5 := ix_of (m := 8) e5 (by omega)
    rw [n5] at g5
    obtain ⟨d, hd⟩ : ∃ d, n - k = d + 1 := ⟨n - k - 1, by omega⟩
    have hd' : n - (k + 1) = d := by omega
    rw [hd] at eR
    obtain ⟨-, -, -, -, hbc, hbp⟩ := hbo.2.2.2 k hk
    show ok (f_X_looked_b13 N rec 0 a1 u) _
    unfold f_X_looked_b13
    simp only [ok_gd, ok_bd, ok_rr1, ok_nr0, ok_nr1, ok_ret, true_and, and_true, not_false_eq_true, sh_sI, sh_sR, sh_sL, gR_sI, gR_sL, gI_sR, gI_sL, sh_cI, gR_cI, hx]
    refine ok_cdf (by rw [ti_le, e13, e5]; omega) ?_
    simp only [ok_gd, ok_bd, ok_rr1, ok_nr0, ok_nr1, ok_ret, true_and, and_true, not_false_eq_true, sh_sI, sh_sR, sh_sL, gR_sI, gR_sL, gI_sR, gI_sL, sh_cI, gR_cI, hx, n5, g5]
    refine ok_call hcx.xp ?_
    rintro r1 u1 ⟨rfl, hr1⟩
    rcases hr1 with ⟨q, hq, hqa, rfl⟩ | ⟨hr1, -⟩
    · have eq : q = bw k := by have := e64 k hk; omega
      subst eq
      simp only [ok_gd, ok_bd, ok_rr1, ok_nr0, ok_nr1, ok_ret, true_and, and_true, not_false_eq_true, sh_sI, sh_sR, sh_sL, gR_sI, gR_sL, gI_sR, gI_sL, sh_cI, gR_cI, hx, n5, g5]
      refine ok_call (hca.choose hN hq (e65 k hk) (by omega)) ?_
      rintro r2 u2 ⟨f2, hca2, hr2⟩
      have fr : RF w u2 := f.tr (scRM f2).rF
      rcases hr2 with ⟨hr2, hcn⟩ | ⟨hr2, y, hcn, hh⟩
      · rw [lkR_n hcn] at eR
        exact ok_cdt (by rw [ti_eq, hr2, ti_0]) (ok_ret.mpr ⟨fr, by rw [← eR]; exact e5⟩)
      · rw [lkR_s hcn] at eR
        refine ok_cdf (by rw [ti_eq, hr2, ti_0]; decide) ?_
        have hx2 := lay_K hca2.1
        simp only [ok_gd, ok_bd, ok_rr1, ok_nr0, ok_nr1, ok_ret, true_and, and_true, not_false_eq_true, sh_sI, sh_sR, sh_sL, gR_sI, gR_sL, gI_sR, gI_sL, sh_cI, gR_cI, hx2]
        refine ok_call (hca2.settle hN hq (by omega) hcn hh) ?_
        rintro - u3 ⟨f3, hca3⟩
        simp only [ok_bd]
        refine IH _ ?_
        refine ⟨rfl, ti_p1 e5 k9, fr.tr (setRF (by omega) f3), ?_, fun i hi => ?_, fun i hi => ?_, _, hca3, by rw [hd']; exact eR⟩
        · show (gI u3 47 13).toInt = _; rw [f3.c ⟨by simp; omega, by simp⟩, f2.c ⟨by decide, by decide⟩]; exact e13
        · show (gI u3 64 i).toInt = _; rw [f3.i ⟨by simp; omega, by simp⟩, f2.i ⟨by decide, by decide⟩]; exact e64 i hi
        · show (gI u3 65 i).toInt = _; rw [f3.i ⟨by simp; omega, by simp⟩, f2.i ⟨by decide, by decide⟩]; exact e65 i hi
    · have := e64 k hk
      exact absurd ⟨by omega, by omega⟩ hr1
  · rintro rec ⟨b0, a1, u⟩ ⟨e0, e5, f, e13, e64, e65, A', hca, eR⟩
    simp only at e0 e5 f e13 e64 e65 hca
    subst e0
    have hx := lay_K hca.1
    have hd : n - n = 0 := by omega
    rw [hd] at eR
    show ok (f_X_looked_b13 N rec 0 a1 u) _
    unfold f_X_looked_b13
    simp only [ok_gd, ok_bd, ok_rr1, ok_nr0, ok_nr1, ok_ret, true_and, and_true, not_false_eq_true, sh_sI, sh_sR, sh_sL, gR_sI, gR_sL, gI_sR, gI_sL, sh_cI, gR_cI, hx]
    exact ok_cdt (by rw [ti_le, e13, e5]; omega) (ok_ret.mpr ⟨f, by rw [← eR]; rfl⟩)
  · exact ⟨rfl, rfl, f0, t13, t64, t65, A, hca0, hR⟩
set_option maxHeartbeats 1000000 in
theorem c_Mlooked (hN : 1000 ≤ N) (h : CX w c tp b kd v ob ro L A) (hbo : BOO w n c bw bp) : ok (f_M_looked N 133 w) (fun r u => RF w u ∧ r.toInt = lkR L kd v ro bw bp n A 0) := by
  have hn8 := hbo.1
  have hx := lay_K h.1.1
  generalize hR : lkR L kd v ro bw bp n A 0 = R
  unfold f_M_looked f_M_looked_b0
  simp only [ok_gd, ok_bd, ok_rr1, ok_nr0, ok_nr1, ok_ret, true_and, and_true, not_false_eq_true, sh_sI, sh_sR, sh_sL, gR_sI, gR_sL, gI_sR, gI_sL, sh_cI, gR_cI, hx]
  refine ok_call (c_save hN h.1.1) ?_
  rintro - u1 ⟨f1, sv⟩
  have hma1 : MA u1 c b kd v ro L A := h.2.2.1.sc (f1.up (by simp) (by simp))
  have p46 : (gI u1 133 46).toInt = (n : Int) := by rw [f1.c ⟨by decide, by simp⟩]; exact hbo.2.2.1
  have p4 : ∀ i, i < n → (gI u1 164 i).toInt = (bw i : Int) ∧ (gI u1 165 i).toInt = (bp i : Int) := fun i hi => by rw [f1.i ⟨by decide, by simp⟩, f1.i ⟨by decide, by simp⟩]; exact ⟨(hbo.2.2.2 i hi).2.1, (hbo.2.2.2 i hi).2.2.2.1⟩
  -- the end
  have fin : ∀ (r : Int32) (u : gW), GF u1 u → r.toInt = R → ok (f_M_looked_b53 N 133 r u) (fun r u => RF w u ∧ r.toInt = R) := by
    intro r u g hr
    have hLu := g.1.lay hma1.1
    have hx := lay_K hLu
    unfold f_M_looked_b53
    simp only [ok_gd, ok_bd, ok_rr1, ok_nr0, ok_nr1, ok_ret, true_and, and_true, not_false_eq_true, sh_sI, sh_sR, sh_sL, gR_sI, gR_sL, gI_sR, gI_sL, sh_cI, gR_cI, hx]
    refine ok_call (c_putBack hN hLu) ?_
    rintro - u5 ⟨f5, e4', e5'⟩
    exact ok_ret.mpr ⟨(back_rm f1 sv g Fr.rf f5 e4' e5').rF, hr⟩
  unfold f_M_looked_l9
  refine itr_up (fun k q => q.1 = 133 ∧ q.2.2.1.toInt = (k : Int) ∧ GF u1 q.2.2.2 ∧ ((q.2.1.toInt = -5 ∧ ∃ A', MA q.2.2.2 c b kd v ro L A' ∧ lkR L kd v ro bw bp (n - k) A' k = R) ∨ (0 ≤ q.2.1.toInt ∧ q.2.1.toInt = R))) n ?_ ?_ N 0 _ (by omega) ?_ (by omega)
  · rintro rec k ⟨b0, a1, a2, u⟩ hk ⟨e0, e5, g, e3⟩ IH
    simp only at e0 e5 g e3
    subst e0
    have hx := lay_K (g.1.lay hma1.1)
    have k9 : k < 2147483647 := by omega
    have n5 := nat_of e5
    have g5 := ix_of (m := 8) e5 (by omega)
    rw [n5] at g5
    have e46 : (gI u 133 46).toInt = (n : Int) := by rw [g.1.c ⟨by decide, by decide⟩]; exact p46
    show ok (f_M_looked_b9 N rec 133 a1 a2 u) _
    unfold f_M_looked_b9
    simp only [ok_gd, ok_bd, ok_rr1, ok_nr0, ok_nr1, ok_ret, true_and, and_true, not_false_eq_true, sh_sI, sh_sR, sh_sL, gR_sI, gR_sL, gI_sR, gI_sL, sh_cI, gR_cI, hx]
    refine ok_cdf (by rw [ti_le, e46, e5]; omega) ?_
    rcases e3 with ⟨h5, A', hma, eR⟩ | ⟨h0, h1⟩
    · obtain ⟨d, hd⟩ : ∃ d, n - k = d + 1 := ⟨n - k - 1, by omega⟩
      have hd' : n - (k + 1) = d := by omega
      rw [hd] at eR
      obtain ⟨-, -, -, -, hbc, hbp⟩ := hbo.2.2.2 k hk
      have e164 : (gI u 164 k).toInt = (bw k : Int) := by rw [g.1.i ⟨by decide, by decide⟩]; exact (p4 k hk).1
      have e165 : (gI u 165 k).toInt = (bp k : Int) := by rw [g.1.i ⟨by decide, by decide⟩]; exact (p4 k hk).2
      refine ok_cdf (by rw [ti_le, h5, ti_0]; decide) ?_
      simp only [ok_gd, ok_bd, ok_rr1, ok_nr0, ok_nr1, ok_ret, true_and, and_true, not_false_eq_true, sh_sI, sh_sR, sh_sL, gR_sI, gR_sL, gI_sR, gI_sL, sh_cI, gR_cI, hx, n5, g5]
      refine ok_call (hma.goes hN hbc e164 e165 (by omega)) ?_
      rintro r1 u2 ⟨g2, hr1⟩
      rcases hr1 with ⟨hr1, hcn, hma2⟩ | ⟨hr1, y, hcn, -, hma2⟩
      · rw [lkR_n hcn] at eR
        refine ok_cdt (by rw [ti_eq, hr1, ti_0]) ?_
        simp only [ok_bd]
        refine IH _ ?_
        exact ⟨rfl, ti_p1 e5 k9, g.tr g2, Or.inr ⟨by simp only; omega, by simp only; omega⟩⟩
      · rw [lkR_s hcn] at eR
        refine ok_cdf (by rw [ti_eq, hr1, ti_0]; decide) ?_
        simp only [ok_bd]
        refine IH _ ?_
        exact ⟨rfl, ti_p1 e5 k9, g.tr g2, Or.inl ⟨ti_n5, _, hma2, by rw [hd']; exact eR⟩⟩
    · exact ok_cdt (by rw [ti_le, ti_0]; exact h0) (fin a1 u g h1)
  · rintro rec ⟨b0, a1, a2, u⟩ ⟨e0, e5, g, e3⟩
    simp only at e0 e5 g e3
    subst e0
    have hx := lay_K (g.1.lay hma1.1)
    have e46 : (gI u 133 46).toInt = (n : Int) := by rw [g.1.c ⟨by decide, by decide⟩]; exact p46
    show ok (f_M_looked_b9 N rec 133 a1 a2 u) _
    unfold f_M_looked_b9
    simp only [ok_gd, ok_bd, ok_rr1, ok_nr0, ok_nr1, ok_ret, true_and, and_true, not_false_eq_true, sh_sI, sh_sR, sh_sL, gR_sI, gR_sL, gI_sR, gI_sL, sh_cI, gR_cI, hx]
    refine ok_cdt (by rw [ti_le, e46, e5]; omega) ?_
    rcases e3 with ⟨h5, A', hma, eR⟩ | ⟨h0, h1⟩
    · have hd : n - n = 0 := by omega
      rw [hd] at eR
      exact fin a1 u g (by rw [h5, ← eR]; rfl)
    · exact fin a1 u g h1
  · exact ⟨rfl, rfl, GF.rf, Or.inl ⟨ti_n5, A, hma1, hR⟩⟩
theorem p_looked (hN : 1000 ≤ N) (h : Sim w) : ok (f_X_looked N 0 w) (fun r w1 => ok (f_M_looked N 133 w1) (fun r' w2 => r = r' ∧ Sim w2)) := by
  obtain ⟨c, tp, b, kd, v, ob, ro, L, A, hx0⟩ := h.cx
  have hbo := h.boo hx0.2.2.2.1
  refine (c_Xlooked hN hx0 hbo).mono ?_
  rintro r1 u1 ⟨f1, hr1⟩
  have hx1 := hx0.rf f1
  refine (c_Mlooked hN hx1 (hbo.rf f1)).mono ?_
  rintro r2 u2 ⟨f2, hr2⟩
  exact ⟨ti_eq.mpr (by rw [hr1, hr2]), hx1.1.rf f2⟩
end LOOKED
