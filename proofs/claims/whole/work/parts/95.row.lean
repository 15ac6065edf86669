/-! ===== rows of prices on the trial world =====  -/
section ROW
variable {N c tp b p n W : Nat} {w u z : gW} {kd v ob : Nat → Nat} {ro : Nat → Nat → Int} {L : List Cl} {A : PS} {a a1 a2 : Int32} {pr : Nat → Nat}
theorem vtRU : ∀ a ∈ VT 47, a ∈ RU := by decide
theorem triRF (f : Fr (VT 47) [] w u) : RF w u := ⟨f.up vtRU (by simp), fun _ => f.i ⟨by decide, by simp⟩, fun _ => f.i ⟨by decide, by simp⟩, fun _ => f.i ⟨by decide, by simp⟩⟩
theorem CX.tri (hN : 1000 ≤ N) (h : CX w c tp b kd v ob ro L A) : ok (f_Wo_become N 47 9 w) (fun _ u => RF w u ∧ CA u 47 c tp kd v ob ro L A ∧ bcR w u 9 47) := by
  have h' := h
  obtain ⟨hS, hca, -⟩ := h'
  obtain ⟨hL, hW, hT, hc4, h14, hTW, hPY, q1, q2, q3, hrg, q4⟩ := hca
  refine (c_become hN hL (Or.inl rfl) (Or.inr (Or.inr rfl)) (by decide) (fun q o hq ho => (hS.2.1.apyo q o hq ho).2.2) h14).mono ?_
  rintro - u ⟨f, g1, g2⟩
  have fr := triRF f
  refine ⟨fr, ⟨f.lay hL, Or.inr rfl, hT, hc4, by rw [g2.2.2.2.2.2.2.2.2.2.2]; exact h14, hTW.fr f (fun d hd => ⟨?_, by simp⟩), hPY.fr f (fun a ha => ⟨by simp; omega, by simp⟩), fun q s hq hs => ?_, fun s hs => ?_, fun q hq => ?_, hrg, fun q k hq hk => ?_⟩, g2⟩
  · simp only [List.mem_cons, List.not_mem_nil, or_false]
    rcases hT with rfl | ⟨i, hi, rfl⟩ <;> omega
  · rw [(g1 q hq).2.2.1 s hs]; exact q1 q s hq hs
  · rw [g2.1 s hs]; exact q2 s hs
  · rw [(g1 q hq).2.1]; exact q3 q hq
  · rw [(g1 q hq).2.2.2 k hk]; exact q4 q k hq hk
/-- a payment on the trial changes the trial alone -/
theorem setRF (hp : p < 4) (f : Fr [47 + 3 + p, 47 + 13] [(47 + 12, p)] w u) : RF w u := by
  refine ⟨f.up2 (fun a ha => ?_) (fun z hz => ?_), fun _ => f.i ⟨by simp; omega, by simp⟩, fun _ => f.i ⟨by simp; omega, by simp⟩, fun _ => f.i ⟨by simp; omega, by simp⟩⟩
  · simp only [List.mem_cons, List.not_mem_nil, or_false] at ha ⊢; omega
  · simp only [List.mem_cons, List.not_mem_nil, or_false] at hz
    subst hz; right; simp
theorem c_Wweight (hN : 1000 ≤ N) (h : CA w W c tp kd v ob ro L A) (hp : p < c) (h1 : a1.toInt = (p : Int)) : ok (f_Wo_weight N W a1 w) (fun r u => u = w ∧ r.toInt = wgt L (A.1 p)) := by
  obtain ⟨hL, hW, hT, hp4, h14, ⟨-, -, twf, tl, -, th⟩, -, q1, -⟩ := h.cp hp
  obtain ⟨w0, -, w2, -, -, -, -, -, -, -, -, -, z2, -⟩ := lay_W hL hW
  obtain ⟨y1, y2, -⟩ := lay_Wp hL hW hp4
  obtain ⟨t0, t1, -, -, -, -, -, -, st1, -⟩ := lay_T hL hT
  obtain ⟨S, S0, S1, S6, SB⟩ := sum6 (f := fun s => A.1 p s * heftF L s)
  have key : ∀ s, s < 6 → 0 ≤ A.1 p s * heftF L s ∧ A.1 p s * heftF L s ≤ 99 * 990 := fun s h => mul_in (q1 s h).2 (heftF_in twf tl h)
  have n1 := nat_of h1
  have g1 := ix_of (m := 4) h1 hp4
  rw [n1] at g1
  unfold f_Wo_weight f_Wo_weight_b0 f_Wo_weight_l4 wgt
  rw [← S6]
  refine itr_up (fun k q => q.1 = W ∧ q.2.1 = a1 ∧ q.2.2.2.2 = w ∧ q.2.2.2.1.toInt = (k : Int) ∧ q.2.2.1.toInt = S k) 6 ?_ ?_ N 0 _ (by omega) ?_ (by omega)
  · rintro rec k ⟨b0, b1, a2, a3, u⟩ hk ⟨e0, e1, e2, e3, e4⟩ IH
    simp only at e0 e1 e2 e3 e4
    subst e0 e1 e2
    have B := SB (99 * 990) k (fun j hj => key j (by omega))
    have B1 := key k hk
    have q := q1 k hk
    have n2 := nat_of e3
    have g2 := ix_of (m := 6) e3 hk
    rw [n2] at g2
    have k9 : k < 2147483647 := by omega
    have m0 : (gI u (b0 + 3 + p) k * gI u (tp + 1) k).toInt = A.1 p k * heftF L k := by rw [ti_mul] <;> rw [q.1, th k hk] <;> omega
    have m1 : (a2 + gI u (b0 + 3 + p) k * gI u (tp + 1) k).toInt = S (k + 1) := by rw [S1, ti_add] <;> rw [m0, e4] <;> omega
    refine ok_cdf (by rw [ti_le, e3, ti_6]; omega) ?_
    simp only [ok_gd, ok_bd, ok_rr1, ok_nr0, ok_nr1, ok_ret, true_and, and_true, not_false_eq_true, sh_sI, sh_sR, sh_sL, gR_sI, gR_sL, gI_sR, gI_sL, sh_cI, gR_cI, w0, w2, z2, y1, y2, n1, n2, g1, g2, h14, t0, t1, st1]
    refine IH _ ?_
    exact ⟨rfl, rfl, rfl, ti_p1 e3 k9, m1⟩
  · rintro rec ⟨b0, b1, a2, a3, u⟩ ⟨e0, e1, e2, e3, e4⟩
    simp only at e0 e1 e2 e3 e4
    subst e0 e1 e2
    refine ok_cdt (by rw [ti_le, e3, ti_6]; decide) ?_
    exact ok_ret.mpr ⟨rfl, e4⟩
  · exact ⟨rfl, rfl, rfl, rfl, by rw [S0]; rfl⟩
/-- the ROW of prices, as both hold it -/
def PRI (w : gW) (n : Nat) (pr : Nat → Nat) : Prop := n ≤ 4 ∧ (gI w 9 7).toInt = (n : Int) ∧ (gI w 133 41).toInt = (n : Int) ∧ ∀ i, i < 4 → (gI w 23 i).toInt = (pr i : Int) ∧ (gI w 161 i).toInt = (pr i : Int) ∧ pr i ≤ 199
theorem Sim.pri (h : Sim w) : PRI w (gI w 133 41).toInt.toNat (fun i => (gI w 161 i).toInt.toNat) := by
  have h1 : 0 ≤ (gI w 133 41).toInt ∧ (gI w 133 41).toInt ≤ 4 := h.2.1.aprcr
  have h2 : gI w 9 7 = gI w 133 41 := h.2.1.aprc
  refine ⟨by omega, by rw [h2]; omega, by omega, fun i hi => ?_⟩
  have e1 : gI w 23 i = gI w 161 i := h.2.1.apri i hi
  have r1 : 0 ≤ (gI w 161 i).toInt ∧ (gI w 161 i).toInt ≤ 199 := h.2.1.aprir i hi
  rw [e1]
  simp only
  omega
theorem PRI.rf (h : PRI w n pr) (f : RF w u) : PRI u n pr := by
  obtain ⟨h1, h2, h3, h4⟩ := h
  have g := f.1
  refine ⟨h1, by rw [g.i (ru_o (by omega) (by omega))]; exact h2, by rw [g.c ⟨by decide, by decide⟩]; exact h3, fun i hi => ?_⟩
  rw [g.i (ru_o (by omega) (by omega)), g.i ⟨by decide, by decide⟩]
  exact h4 i hi
noncomputable def rwS (L : List Cl) (kd v : Nat → Nat) (ro : Nat → Nat → Int) (A : PS) (p : Nat) (pr : Nat → Nat) : Nat → PS × Nat
  | 0 => (A, 0)
  | k + 1 => match cS L kd v ro (rwS L kd v ro A p pr k).1 p (pr k) with
    | none => rwS L kd v ro A p pr k
    | some y => (nS (rwS L kd v ro A p pr k).1 p (pr k) y, (rwS L kd v ro A p pr k).2 + 1)
theorem rwS_0 {k : Nat} (h : cS L kd v ro (rwS L kd v ro A p pr k).1 p (pr k) = none) : rwS L kd v ro A p pr (k + 1) = rwS L kd v ro A p pr k := by simp only [rwS, h]
theorem rwS_1 {k : Nat} {y : List Nat} (h : cS L kd v ro (rwS L kd v ro A p pr k).1 p (pr k) = some y) : rwS L kd v ro A p pr (k + 1) = (nS (rwS L kd v ro A p pr k).1 p (pr k) y, (rwS L kd v ro A p pr k).2 + 1) := by simp only [rwS, h]
theorem rwS_in : ∀ k, (rwS L kd v ro A p pr k).2 ≤ k := by
  intro k
  induction k with
  | zero => exact Nat.le_refl _
  | succ k ih =>
    simp only [rwS]
    split
    · omega
    · simp only; omega
set_option maxRecDepth 20000 in
theorem lay_R (h : Lay w) : sh w 0 = (11, 0) ∧ sh w 9 = (9, 0) ∧ sh w 47 = (9, 0) ∧ sh w 66 = (10, 0) ∧ gR w 0 1 = some 9 ∧ gR w 0 3 = some 47 ∧ gR w 0 5 = some 66 ∧ gR w 47 6 = some 61 ∧ sh w 61 = (50, 4) ∧ sh w 133 = (12, 0) ∧ gR w 133 42 = some 161 ∧ sh w 161 = (50, 4) ∧ sh w 10 = (54, 4) ∧ gR w 9 0 = some 10 := ⟨h.1 0 (by decide), h.1 9 (by decide), h.1 47 (by decide), h.1 66 (by decide), h.2.1 (0, 1, 9) (by decide), h.2.1 (0, 3, 47) (by decide), h.2.1 (0, 5, 66) (by decide), h.2.1 (47, 6, 61) (by decide), h.1 61 (by decide), h.1 133 (by decide), h.2.1 (133, 42, 161) (by decide), h.1 161 (by decide), h.1 10 (by decide), h.2.1 (9, 0, 10) (by decide)⟩
set_option maxHeartbeats 1000000 in
theorem c_XpayRow (hN : 1000 ≤ N) (h : CX w c tp b kd v ob ro L A) (hpi : PRI w n pr) (hp : p < c) : ok (f_X_payRowOnTrial N 0 (ob p) w) (fun r u => RF w u ∧ CA u 47 c tp kd v ob ro L (rwS L kd v ro A p pr n).1 ∧ r.toInt = ((rwS L kd v ro A p pr n).2 : Int)) := by
  have hn4 := hpi.1
  have hc4 : c ≤ 4 := h.2.2.2.2.2.1
  have hx := lay_R h.1.1
  unfold f_X_payRowOnTrial f_X_payRowOnTrial_b0
  simp only [ok_gd, ok_bd, ok_rr1, ok_nr0, ok_nr1, ok_ret, true_and, and_true, not_false_eq_true, sh_sI, sh_sR, sh_sL, gR_sI, gR_sL, gI_sR, gI_sL, sh_cI, gR_cI, hx]
  refine ok_call (h.tri hN) ?_
  rintro - u0 ⟨f0, hca0, hr0⟩
  have t7 : (gI u0 47 7).toInt = (n : Int) := by rw [hr0.2.2.2.2.2.2.2.1]; exact hpi.2.1
  have t14 : ∀ i, i < 4 → (gI u0 61 i).toInt = (pr i : Int) := fun i hi => by rw [hr0.2.1 i hi]; exact (hpi.2.2.2 i hi).1
  unfold f_X_payRowOnTrial_l15
  refine itr_up (fun k q => q.1 = 0 ∧ q.2.1 = ob p ∧ q.2.2.2.1.toInt = (k : Int) ∧ RF w q.2.2.2.2 ∧ (gI q.2.2.2.2 47 7).toInt = (n : Int) ∧ (∀ i, i < 4 → (gI q.2.2.2.2 61 i).toInt = (pr i : Int)) ∧ CA q.2.2.2.2 47 c tp kd v ob ro L (rwS L kd v ro A p pr k).1 ∧ q.2.2.1.toInt = ((rwS L kd v ro A p pr k).2 : Int)) n ?_ ?_ N 0 _ (by omega) ?_ (by omega)
  · rintro rec k ⟨b0, b1, a2, a3, u⟩ hk ⟨e0, e1, e5, f, e7, e14, hca, e2⟩ IH
    simp only at e0 e1 e5 f e7 e14 hca e2
    subst e0 e1
    have hx := lay_R hca.1
    have k9 : k < 2147483647 := by omega
    have n5 := nat_of e5
    have g5 := ix_of (m := 4) e5 (by omega)
    rw [n5] at g5
    have ri := rwS_in (L := L) (kd := kd) (v := v) (ro := ro) (A := A) (p := p) (pr := pr) k
    have rk9 : (rwS L kd v ro A p pr k).2 < 2147483647 := by omega
    have prk := (hpi.2.2.2 k (by omega)).2.2
    show ok (f_X_payRowOnTrial_b15 N rec 0 (ob p) a2 a3 u) _
    unfold f_X_payRowOnTrial_b15
    simp only [ok_gd, ok_bd, ok_rr1, ok_nr0, ok_nr1, ok_ret, true_and, and_true, not_false_eq_true, sh_sI, sh_sR, sh_sL, gR_sI, gR_sL, gI_sR, gI_sL, sh_cI, gR_cI, hx]
    refine ok_cdf (by rw [ti_le, e7, e5]; omega) ?_
    simp only [ok_gd, ok_bd, ok_rr1, ok_nr0, ok_nr1, ok_ret, true_and, and_true, not_false_eq_true, sh_sI, sh_sR, sh_sL, gR_sI, gR_sL, gI_sR, gI_sL, sh_cI, gR_cI, hx, n5, g5]
    refine ok_call (hca.choose hN hp (e14 k (by omega)) (by omega)) ?_
    rintro r1 u1 ⟨f1, hca1, hr1⟩
    have fr : RF w u1 := f.tr (scRM f1).rF
    have e7' : (gI u1 47 7).toInt = (n : Int) := by rw [f1.c ⟨by decide, by decide⟩]; exact e7
    have e14' : ∀ i, i < 4 → (gI u1 61 i).toInt = (pr i : Int) := fun i hi => by rw [f1.i ⟨by decide, by decide⟩]; exact e14 i hi
    rcases hr1 with ⟨hr1, hcn⟩ | ⟨hr1, y, hcn, hh⟩
    · refine ok_cdt (by rw [ti_eq, hr1, ti_0]) ?_
      simp only [ok_bd]
      refine IH _ ?_
      rw [rwS_0 hcn]
      exact ⟨rfl, rfl, ti_p1 e5 k9, fr, e7', e14', hca1, e2⟩
    · refine ok_cdf (by rw [ti_eq, hr1, ti_0]; decide) ?_
      have hx1 := lay_R hca1.1
      simp only [ok_gd, ok_bd, ok_rr1, ok_nr0, ok_nr1, ok_ret, true_and, and_true, not_false_eq_true, sh_sI, sh_sR, sh_sL, gR_sI, gR_sL, gI_sR, gI_sL, sh_cI, gR_cI, hx1]
      refine ok_call (hca1.settle hN hp (by omega) hcn hh) ?_
      rintro - u2 ⟨f2, hca2⟩
      simp only [ok_bd]
      refine IH _ ?_
      rw [rwS_1 hcn]
      refine ⟨rfl, rfl, ti_p1 e5 k9, fr.tr (setRF (by omega) f2), ?_, fun i hi => ?_, hca2, ti_p1 e2 rk9⟩
      · show (gI u2 47 7).toInt = _; rw [f2.c ⟨by simp; omega, by simp⟩]; exact e7'
      · show (gI u2 61 i).toInt = _; rw [f2.i ⟨by simp; omega, by simp⟩]; exact e14' i hi
  · rintro rec ⟨b0, b1, a2, a3, u⟩ ⟨e0, e1, e5, f, e7, e14, hca, e2⟩
    simp only at e0 e1 e5 f e7 e14 hca e2
    subst e0 e1
    have hx := lay_R hca.1
    show ok (f_X_payRowOnTrial_b15 N rec 0 (ob p) a2 a3 u) _
    unfold f_X_payRowOnTrial_b15
    simp only [ok_gd, ok_bd, ok_rr1, ok_nr0, ok_nr1, ok_ret, true_and, and_true, not_false_eq_true, sh_sI, sh_sR, sh_sL, gR_sI, gR_sL, gI_sR, gI_sL, sh_cI, gR_cI, hx]
    exact ok_cdt (by rw [ti_le, e7, e5]; omega) (ok_ret.mpr ⟨f, hca, e2⟩)
  · exact ⟨rfl, rfl, rfl, f0, t7, t14, hca0, rfl⟩
set_option maxHeartbeats 1000000 in
theorem c_MgoesRow (hN : 1000 ≤ N) (h : CX w c tp b kd v ob ro L A) (hpi : PRI w n pr) (hp : p < c) (h1 : a1.toInt = (p : Int)) : ok (f_M_goesRow N 133 a1 w) (fun r u => RF w u ∧ r.toInt = ((rwS L kd v ro A p pr n).2 : Int) ∧ (gI u 133 38).toInt = wgt L ((rwS L kd v ro A p pr n).1.1 p) ∧ (gI u 133 39).toInt = cnS ((rwS L kd v ro A p pr n).1.1 p)) := by
  have hn4 := hpi.1
  have hx := lay_R h.1.1
  unfold f_M_goesRow f_M_goesRow_b0
  simp only [ok_gd, ok_bd, ok_rr1, ok_nr0, ok_nr1, ok_ret, true_and, and_true, not_false_eq_true, sh_sI, sh_sR, sh_sL, gR_sI, gR_sL, gI_sR, gI_sL, sh_cI, gR_cI, hx]
  refine ok_call (c_save hN h.1.1) ?_
  rintro - u1 ⟨f1, sv⟩
  have hma1 : MA u1 c b kd v ro L A := h.2.2.1.sc (f1.up (by simp) (by simp))
  have p41 : (gI u1 133 41).toInt = (n : Int) := by rw [f1.c ⟨by decide, by simp⟩]; exact hpi.2.2.1
  have p161 : ∀ i, i < 4 → (gI u1 161 i).toInt = (pr i : Int) := fun i hi => by rw [f1.i ⟨by decide, by simp⟩]; exact (hpi.2.2.2 i hi).2.1
  unfold f_M_goesRow_l8
  refine itr_up (fun k q => q.1 = 133 ∧ q.2.1 = a1 ∧ q.2.2.2.1.toInt = (k : Int) ∧ GF u1 q.2.2.2.2 ∧ MA q.2.2.2.2 c b kd v ro L (rwS L kd v ro A p pr k).1 ∧ q.2.2.1.toInt = ((rwS L kd v ro A p pr k).2 : Int)) n ?_ ?_ N 0 _ (by omega) ?_ (by omega)
  · rintro rec k ⟨b0, b1, a2, a3, u⟩ hk ⟨e0, e1, e5, g, hma, e2⟩ IH
    simp only at e0 e1 e5 g hma e2
    subst e0 e1
    have hx := lay_R hma.1
    have k9 : k < 2147483647 := by omega
    have n5 := nat_of e5
    have g5 := ix_of (m := 4) e5 (by omega)
    rw [n5] at g5
    have ri := rwS_in (L := L) (kd := kd) (v := v) (ro := ro) (A := A) (p := p) (pr := pr) k
    have rk9 : (rwS L kd v ro A p pr k).2 < 2147483647 := by omega
    have prk := (hpi.2.2.2 k (by omega)).2.2
    have e41 : (gI u 133 41).toInt = (n : Int) := by rw [g.1.c ⟨by decide, by decide⟩]; exact p41
    have e161 : (gI u 161 k).toInt = (pr k : Int) := by rw [g.1.i ⟨by decide, by decide⟩]; exact p161 k (by omega)
    show ok (f_M_goesRow_b8 N rec 133 b1 a2 a3 u) _
    unfold f_M_goesRow_b8
    simp only [ok_gd, ok_bd, ok_rr1, ok_nr0, ok_nr1, ok_ret, true_and, and_true, not_false_eq_true, sh_sI, sh_sR, sh_sL, gR_sI, gR_sL, gI_sR, gI_sL, sh_cI, gR_cI, hx]
    refine ok_cdf (by rw [ti_le, e41, e5]; omega) ?_
    simp only [ok_gd, ok_bd, ok_rr1, ok_nr0, ok_nr1, ok_ret, true_and, and_true, not_false_eq_true, sh_sI, sh_sR, sh_sL, gR_sI, gR_sL, gI_sR, gI_sL, sh_cI, gR_cI, hx, n5, g5]
    refine ok_call (hma.goes hN hp h1 e161 (by omega)) ?_
    rintro r1 u2 ⟨g2, hr1⟩
    rcases hr1 with ⟨hr1, hcn, hma2⟩ | ⟨hr1, y, hcn, -, hma2⟩
    · have t0 : (a2 + 0).toInt = ((rwS L kd v ro A p pr k).2 : Int) := by rw [ti_add] <;> rw [ti_0, e2] <;> omega
      refine ok_cdt (by rw [ti_eq, hr1, ti_0]) ?_
      simp only [ok_bd]
      refine IH _ ?_
      rw [rwS_0 hcn]
      exact ⟨rfl, rfl, ti_p1 e5 k9, g.tr g2, hma2, t0⟩
    · refine ok_cdf (by rw [ti_eq, hr1, ti_0]; decide) ?_
      simp only [ok_bd]
      refine IH _ ?_
      rw [rwS_1 hcn]
      exact ⟨rfl, rfl, ti_p1 e5 k9, g.tr g2, hma2, ti_p1 e2 rk9⟩
  · rintro rec ⟨b0, b1, a2, a3, u⟩ ⟨e0, e1, e5, g, hma, e2⟩
    simp only at e0 e1 e5 g hma e2
    subst e0 e1
    have hx := lay_R hma.1
    have e41 : (gI u 133 41).toInt = (n : Int) := by rw [g.1.c ⟨by decide, by decide⟩]; exact p41
    show ok (f_M_goesRow_b8 N rec 133 b1 a2 a3 u) _
    unfold f_M_goesRow_b8
    simp only [ok_gd, ok_bd]
    refine ⟨by rw [hx.2.2.2.2.2.2.2.2.2.1], ?_⟩
    refine ok_cdt (by rw [ti_le, e41, e5]; omega) ?_
    have := c_layBack (k := fun z => some (a2, z)) (Q := fun r u => RF w u ∧ r.toInt = ((rwS L kd v ro A p pr n).2 : Int) ∧ (gI u 133 38).toInt = wgt L ((rwS L kd v ro A p pr n).1.1 p) ∧ (gI u 133 39).toInt = cnS ((rwS L kd v ro A p pr n).1.1 p)) hN f1 sv g hma hp h1 (fun z hz _ h38 h39 => ok_ret.mpr ⟨hz.rF, e2, h38, h39⟩)
    rw [ok_gd] at this
    exact this.2
  · exact ⟨rfl, rfl, rfl, GF.rf, hma1, rfl⟩
end ROW
