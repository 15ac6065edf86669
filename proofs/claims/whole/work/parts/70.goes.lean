/-! ===== the model: a payment made, saved, put back =====  -/
abbrev GT : List Nat := [137, 139, 140, 150, 151, 152, 153, 154, 155, 156]
def GF (w u : gW) : Prop := Fr GT SC w u ∧ (∀ k, 24 ≤ k → gI u 139 k = gI w 139 k) ∧ (∀ k, 6 ≤ k → gI u 140 k = gI w 140 k) ∧ ∀ k, 4 ≤ k → gI u 137 k = gI w 137 k
theorem GF.rf {w : gW} : GF w w := ⟨Fr.rf, fun _ _ => rfl, fun _ _ => rfl, fun _ _ => rfl⟩
theorem GF.tr {w u v : gW} (h : GF w u) (g : GF u v) : GF w v := ⟨h.1.tr g.1, fun k hk => (g.2.1 k hk).trans (h.2.1 k hk), fun k hk => (g.2.2.1 k hk).trans (h.2.2.1 k hk), fun k hk => (g.2.2.2 k hk).trans (h.2.2.2 k hk)⟩
theorem MT.gf {w u : gW} (f : Fr MT SC w u) : GF w u := ⟨f.up (by simp) (by simp), fun _ _ => f.i ⟨by decide, by simp⟩, fun _ _ => f.i ⟨by decide, by simp⟩, fun _ _ => f.i ⟨by decide, by simp⟩⟩
theorem pd_m1 {d : Nat} (h : d ≤ 9999) (c : (9999 : Int) ≤ (d : Int)) : (9999 : Int) = ((pdF d : Nat) : Int) := by rw [pdF_i h]; omega
theorem pd_m2 {d : Nat} (h : d ≤ 9999) (c : ¬ (9999 : Int) ≤ (d : Int)) : (d : Int) + 1 = ((pdF d : Nat) : Int) := by rw [pdF_i h]; omega
theorem pd_m3 {x : Int32} {d : Nat} (h : d ≤ 9999) (e : x.toInt = (d : Int)) : (x + 1).toInt = (d : Int) + 1 := by rw [ti_add1 (by omega), e]
section GOES
variable {N c b p : Nat} {w u : gW} {kd v : Nat → Nat} {ro : Nat → Nat → Int} {L : List Cl} {A : PS} {price : Int} {y : List Nat} {a1 a2 a3 : Int32}
/-- what one has handed over lies -/
def hasM (u : gW) (A : PS) (price : Int) (y : List Nat) : Prop := (gI u 133 34).toInt = hsum y ∧ ∀ s, s < 6 → (gI u 155 s).toInt = gx y s ∧ (gI u 156 s).toInt = bx A.2.1 y price s
theorem hasM.fr (h : hasM w A price y) (h1 : gI u 133 34 = gI w 133 34) (h2 : ∀ k, gI u 155 k = gI w 155 k) (h3 : ∀ k, gI u 156 k = gI w 156 k) : hasM u A price y := ⟨by rw [h1]; exact h.1, fun s hs => by rw [h2, h3]; exact h.2 s hs⟩
theorem MA.mt (h : MA w c b kd v ro L A) (f : Fr MT SC w u) : MA u c b kd v ro L A := h.sc (MT.st f)
set_option maxHeartbeats 1000000 in
theorem MA.goes (hN : 1000 ≤ N) (h : MA w c b kd v ro L A) (hp : p < c) (h1 : a1.toInt = (p : Int)) (h3 : a2.toInt = price) (hpr : 0 ≤ price ∧ price ≤ 500) :
    ok (f_M_goes N 133 a1 a2 w) (fun r u => GF w u ∧ ((r.toInt = 0 ∧ cS L kd v ro A p price = none ∧ MA u c b kd v ro L A) ∨ (r.toInt = 1 ∧ ∃ y, cS L kd v ro A p price = some y ∧ hasM u A price y ∧ MA u c b kd v ro L (nS A p price y)))) := by
  have hm := lay_M h.1
  unfold f_M_goes f_M_goes_b0
  simp only [ok_gd, ok_bd, ok_rr1, ok_nr0, ok_nr1, ok_ret, true_and, and_true, not_false_eq_true, sh_sI, sh_sR, sh_sL, gR_sI, gR_sL, gI_sR, gI_sL, sh_cI, gR_cI, hm]
  refine ok_call (h.choose hN hp h1 h3 hpr) ?_
  rintro r u0 ⟨f0, hr⟩
  have hu0 := h.mt f0
  rcases hr with ⟨hr, hc⟩ | ⟨hr, y, hc, hm⟩
  · exact ok_cdt (by rw [ti_eq, hr, ti_0]) (ok_ret.mpr ⟨MT.gf f0, Or.inl ⟨ti_0, hc, hu0⟩⟩)
  refine ok_cdf (by rw [ti_eq, hr, ti_0]; decide) ?_
  have hu0' := hu0
  obtain ⟨hL, hv, hwr, hc4, hpy, q1, q2, q3, hrg, q4⟩ := hu0
  have hp4 : p < 4 := by omega
  obtain ⟨n1, n2, n3, n4, n5, n6⟩ := nS_rg hrg hv.2.2.1 hv.1 hp4 hc hpr.1
  unfold f_M_goes_l13
  refine itr_up (fun k q => q.1 = 133 ∧ q.2.1 = a1 ∧ q.2.2.1.toInt = (k : Int) ∧ Fr [139, 140] [] u0 q.2.2.2 ∧ (∀ j, (j < 6 * p ∨ 6 * p + k ≤ j) → gI q.2.2.2 139 j = gI u0 139 j) ∧ (∀ j, k ≤ j → gI q.2.2.2 140 j = gI u0 140 j) ∧ ∀ s, s < k → (gI q.2.2.2 139 (6 * p + s)).toInt = puF (A.1 p) y (bx A.2.1 y price) s ∧ (gI q.2.2.2 140 s).toInt = tiF A.2.1 y (bx A.2.1 y price) s) 6 ?_ ?_ N 0 _ (by omega) ?_ (by omega)
  · rintro rec k ⟨b0, b1, a3, u⟩ hk ⟨e0, e1, e3, f, e4, e5, e6⟩ IH
    simp only at e0 e1 e3 f e4 e5 e6
    subst e0 e1
    have hm' := lay_M (f.lay hL)
    have nn3 := nat_of e3
    have g3 := ix_of (m := 6) e3 hk
    rw [nn3] at g3
    have e6p := ti_6p h1 hp4 e3 (by omega)
    have nn6 := nat_of e6p
    have g6 := ix_of (m := 24) e6p (by omega)
    rw [nn6] at g6
    clear e6p
    have k9 : k < 2147483647 := by omega
    have v5 : (gI u 155 k).toInt = gx y k := by rw [f.i ⟨by decide, by simp⟩]; exact (hm.2 k hk).1
    have v6 : (gI u 156 k).toInt = bx A.2.1 y price k := by rw [f.i ⟨by decide, by simp⟩]; exact (hm.2 k hk).2
    have v9 : (gI u 139 (6 * p + k)).toInt = A.1 p k := by rw [e4 _ (by omega)]; exact q1 p k hp4 hk
    have v0 : (gI u 140 k).toInt = A.2.1 k := by rw [e5 k (by omega)]; exact q2 k hk
    have gk := n2.g k
    have bk := n6 k hk
    have r1 := hrg.1 p k hp4 hk
    have r2 := hrg.2.1 k hk
    have d1 : (gI u 155 k - gI u 156 k).toInt = gx y k - bx A.2.1 y price k := by rw [ti_sub] <;> rw [v5, v6] <;> omega
    have d2 : (gI u 140 k + (gI u 155 k - gI u 156 k)).toInt = tiF A.2.1 y (bx A.2.1 y price) k := by unfold tiF; rw [ti_add] <;> rw [d1, v0] <;> omega
    clear d1
    have d3 : (gI u 156 k - gI u 155 k).toInt = bx A.2.1 y price k - gx y k := by rw [ti_sub] <;> rw [v5, v6] <;> omega
    have d4 : (gI u 139 (6 * p + k) + (gI u 156 k - gI u 155 k)).toInt = puF (A.1 p) y (bx A.2.1 y price) k := by unfold puF; rw [ti_add] <;> rw [d3, v9] <;> omega
    clear d3
    refine ok_cdf (by rw [ti_le, e3, ti_6]; omega) ?_
    simp (disch := decide) only [ok_gd, ok_bd, ok_rr1, ok_nr0, ok_nr1, ok_ret, true_and, and_true, not_false_eq_true, sh_sI, sh_sR, sh_sL, gR_sI, gR_sL, gI_sR, gI_sL, sh_cI, gR_cI, gI_ne, hm', nn3, g3, nn6, g6]
    refine IH _ ?_
    refine ⟨rfl, rfl, ti_p1 e3 k9, Fr_sI (Fr_sI f (by simp)) (by simp), fun j hj => ?_, fun j hj => ?_, fun s hs => ⟨?_, ?_⟩⟩
    · simp only; rw [gI_nk (by omega), gI_ne (by decide)]; exact e4 j (by omega)
    · simp only; rw [gI_ne (by decide), gI_nk (by omega)]; exact e5 j (by omega)
    · simp only; rw [gI_sI]
      by_cases e : s = k
      · rw [if_pos ⟨rfl, by omega⟩, e]; exact d4
      · rw [if_neg (fun q => e (by omega)), gI_ne (by decide)]; exact (e6 s (by omega)).1
    · simp only; rw [gI_ne (by decide), gI_sI]
      by_cases e : s = k
      · rw [if_pos ⟨rfl, e⟩, e]; exact d2
      · rw [if_neg (fun q => e q.2)]; exact (e6 s (by omega)).2
  · rintro rec ⟨b0, b1, a3, u⟩ ⟨e0, e1, e3, f, e4, e5, e6⟩
    simp only at e0 e1 e3 f e4 e5 e6
    subst e0 e1
    have hm' := lay_M (f.lay hL)
    have nn1 := nat_of h1
    have g1 := ix_of (m := 4) h1 hp4
    rw [nn1] at g1
    have ev : gI u 137 p = gI u0 137 p := f.i ⟨by decide, by simp⟩
    have hpd := hrg.2.2 p hp4
    have fin : ∀ z : Int32, z.toInt = ((pdF (A.2.2 p) : Nat) : Int) → ok (f_M_goes_b105 N z b1 137 u) (fun r u => GF w u ∧ ((r.toInt = 0 ∧ cS L kd v ro A p price = none ∧ MA u c b kd v ro L A) ∨ (r.toInt = 1 ∧ ∃ y, cS L kd v ro A p price = some y ∧ hasM u A price y ∧ MA u c b kd v ro L (nS A p price y)))) := by
      intro z hz
      unfold f_M_goes_b105
      simp only [ok_gd, ok_bd, ok_rr1, ok_nr0, ok_nr1, ok_ret, true_and, and_true, not_false_eq_true, sh_sI, sh_sR, sh_sL, gR_sI, gR_sL, gI_sR, gI_sL, sh_cI, gR_cI, hm', nn1, g1]
      have f2 : Fr [137, 139, 140] [] u0 (sI u 137 p z) := Fr_sI (f.up (by simp) (by simp)) (by simp)
      refine ⟨(MT.gf f0).tr ⟨f2.up (by simp) (by simp), fun k hk => ?_, fun k hk => ?_, fun k hk => ?_⟩, Or.inr ⟨ti_1, y, hc, hasM.fr hm (f2.c ⟨by decide, by simp⟩) (fun k => f2.i ⟨by decide, by simp⟩) (fun k => f2.i ⟨by decide, by simp⟩), f2.lay hL, hv.fr f2 (fun d h1 h2 => ⟨by simp; omega, by simp⟩) ⟨by decide, by simp⟩, hwr.c f2 ⟨by decide, by simp⟩, hc4, fun q hq => ?_, fun q s hq hs => ?_, fun s hs => ?_, fun q hq => ?_, n1, fun q k hq hk => ?_⟩⟩
      · rw [gI_ne (by decide)]; exact e4 k (by omega)
      · rw [gI_ne (by decide)]; exact e5 k hk
      · rw [gI_nk (by omega), f.i ⟨by decide, by simp⟩]
      · rw [f2.i ⟨by decide, by simp⟩, f2.i ⟨by decide, by simp⟩]; exact hpy q hq
      · simp only [nS]; rw [gI_ne (by decide)]
        by_cases e : q = p
        · rw [if_pos e, e]; exact (e6 s hs).1
        · rw [if_neg e, e4 _ (by omega)]; exact q1 q s hq hs
      · simp only [nS]; rw [gI_ne (by decide)]; exact (e6 s hs).2
      · simp only [nS]
        by_cases e : q = p
        · rw [if_pos e, e, gI_eq]; exact hz
        · rw [if_neg e, gI_nk e, f.i ⟨by decide, by simp⟩]; exact q3 q hq
      · rw [f2.i ⟨by decide, by simp⟩]; exact q4 q k hq hk
    refine ok_cdt (by rw [ti_le, e3, ti_6]; decide) ?_
    simp only [ok_gd, ok_bd, ok_rr1, ok_nr0, ok_nr1, ok_ret, true_and, and_true, not_false_eq_true, sh_sI, sh_sR, sh_sL, gR_sI, gR_sL, gI_sR, gI_sL, sh_cI, gR_cI, hm', nn1, g1]
    have e7 : (gI u 137 p).toInt = ((A.2.2 p : Nat) : Int) := by rw [ev]; exact q3 p hp4
    rw [ok_cd]
    refine ⟨fun cc => ?_, fun cc => ?_⟩
    · rw [ti_le, e7, ti_9999] at cc
      refine fin 9999 ?_
      rw [ti_9999]; exact pd_m1 hpd cc
    · rw [ti_le, e7, ti_9999] at cc
      simp only [ok_bd]
      refine fin _ ?_
      rw [pd_m3 hpd e7]; exact pd_m2 hpd cc
  · exact ⟨rfl, rfl, rfl, Fr.rf, fun _ _ => rfl, fun _ _ => rfl, fun s hs => absurd hs (by omega)⟩
/-- a row of cells copied -/
theorem cp_loop {F : (Nat × Int32 × gW → Option (Unit × gW)) → Nat × Int32 × gW → Option (Unit × gW)} {Q : Unit → gW → Prop} {dst src n : Nat} (hN : n < N) (hn : n < 1000) (hsd : src ≠ dst) (hL : Lay w)
    (step : ∀ rec u (a1 : Int32) k, a1.toInt = ((k : Nat) : Int) → k < n → Lay u → ok (rec (133, a1 + 1, sI u dst k (gI u src k))) Q → ok (F rec (133, a1, u)) Q)
    (fin : ∀ rec u (a1 : Int32), a1.toInt = (n : Int) → Lay u → Fr [dst] [] w u → (∀ k, k < n → gI u dst k = gI w src k) → (∀ k, n ≤ k → gI u dst k = gI w dst k) → ok (F rec (133, a1, u)) Q) : ok (itr F N (133, 0, w)) Q := by
  refine itr_up (fun k q => q.1 = 133 ∧ q.2.1.toInt = (k : Int) ∧ Fr [dst] [] w q.2.2 ∧ (∀ j, j < k → gI q.2.2 dst j = gI w src j) ∧ ∀ j, k ≤ j → gI q.2.2 dst j = gI w dst j) n ?_ ?_ N 0 _ (by omega) ?_ (by omega)
  · rintro rec k ⟨b0, a1, u⟩ hk ⟨e0, e1, f, e2, e3⟩ IH
    simp only at e0 e1 f e2 e3
    subst e0
    have k9 : k < 2147483647 := by omega
    refine step rec u a1 k e1 hk (f.lay hL) (IH _ ?_)
    refine ⟨rfl, ti_p1 e1 k9, Fr_sI f (by simp), fun j hj => ?_, fun j hj => ?_⟩
    · simp only; rw [gI_sI]
      by_cases e : j = k
      · rw [if_pos ⟨rfl, e⟩, e, f.i ⟨by simpa using hsd, by simp⟩]
      · rw [if_neg (fun q => e q.2)]; exact e2 j (by omega)
    · simp only; rw [gI_nk (by omega)]; exact e3 j (by omega)
  · rintro rec ⟨b0, a1, u⟩ ⟨e0, e1, f, e2, e3⟩
    simp only at e0 e1 f e2 e3
    subst e0
    exact fin rec u a1 e1 (f.lay hL) f e2 e3
  · exact ⟨rfl, rfl, Fr.rf, fun j hj => absurd hj (by omega), fun _ _ => rfl⟩
theorem ti_24 : (24 : Int32).toInt = 24 := rfl
set_option maxRecDepth 20000 in
theorem lay_S (h : Lay w) : sh w 133 = (12, 0) ∧ gR w 133 35 = some 157 ∧ gR w 133 36 = some 158 ∧ gR w 133 37 = some 159 ∧ sh w 157 = (50, 24) ∧ sh w 158 = (50, 6) ∧ sh w 159 = (50, 4) ∧ gR w 133 4 = some 137 ∧ gR w 133 6 = some 139 ∧ gR w 133 7 = some 140 ∧ sh w 137 = (50, 4) ∧ sh w 139 = (50, 24) ∧ sh w 140 = (50, 6) := ⟨h.1 133 (by decide), h.2.1 (133, 35, 157) (by decide), h.2.1 (133, 36, 158) (by decide), h.2.1 (133, 37, 159) (by decide), h.1 157 (by decide), h.1 158 (by decide), h.1 159 (by decide), h.2.1 (133, 4, 137) (by decide), h.2.1 (133, 6, 139) (by decide), h.2.1 (133, 7, 140) (by decide), h.1 137 (by decide), h.1 139 (by decide), h.1 140 (by decide)⟩
/-- what is saved -/
def SV (w u : gW) : Prop := (∀ k, k < 24 → gI u 157 k = gI w 139 k) ∧ (∀ k, k < 6 → gI u 158 k = gI w 140 k) ∧ ∀ k, k < 4 → gI u 159 k = gI w 137 k
theorem c_save (hN : 1000 ≤ N) (hL : Lay w) : ok (f_M_save N 133 w) (fun _ u => Fr [157, 158, 159] [] w u ∧ SV w u) := by
  unfold f_M_save f_M_save_b0 f_M_save_l2
  refine cp_loop (dst := 157) (src := 139) (n := 24) (by omega) (by omega) (by decide) hL (fun rec u a1 k h1 hk hLu hh => ?_) (fun rec u a1 h1 hLu f e1 e2 => ?_)
  · have hm := lay_S hLu
    have n1 := nat_of h1
    have g1 := ix_of (m := 24) h1 hk
    rw [n1] at g1
    refine ok_cdf (by rw [ti_le, h1, ti_24]; omega) ?_
    simp only [ok_gd, ok_bd, ok_rr1, ok_nr0, ok_nr1, ok_ret, true_and, and_true, not_false_eq_true, sh_sI, sh_sR, sh_sL, gR_sI, gR_sL, gI_sR, gI_sL, sh_cI, gR_cI, hm, n1, g1]
    exact hh
  · refine ok_cdt (by rw [ti_le, h1, ti_24]; decide) ?_
    unfold f_M_save_l28
    refine cp_loop (dst := 158) (src := 140) (n := 6) (by omega) (by omega) (by decide) hLu (fun rec v a1 k h1 hk hLu hh => ?_) (fun rec v a1 h1 hLu f' e1' e2' => ?_)
    · have hm := lay_S hLu
      have n1 := nat_of h1
      have g1 := ix_of (m := 6) h1 hk
      rw [n1] at g1
      refine ok_cdf (by rw [ti_le, h1, ti_6]; omega) ?_
      simp only [ok_gd, ok_bd, ok_rr1, ok_nr0, ok_nr1, ok_ret, true_and, and_true, not_false_eq_true, sh_sI, sh_sR, sh_sL, gR_sI, gR_sL, gI_sR, gI_sL, sh_cI, gR_cI, hm, n1, g1]
      exact hh
    · refine ok_cdt (by rw [ti_le, h1, ti_6]; decide) ?_
      unfold f_M_save_l54
      refine cp_loop (dst := 159) (src := 137) (n := 4) (by omega) (by omega) (by decide) hLu (fun rec v a1 k h1 hk hLu hh => ?_) (fun rec z a1 h1 hLu f'' e1'' e2'' => ?_)
      · have hm := lay_S hLu
        have n1 := nat_of h1
        have g1 := ix_of (m := 4) h1 hk
        rw [n1] at g1
        refine ok_cdf (by rw [ti_le, h1, ti_4]; omega) ?_
        simp only [ok_gd, ok_bd, ok_rr1, ok_nr0, ok_nr1, ok_ret, true_and, and_true, not_false_eq_true, sh_sI, sh_sR, sh_sL, gR_sI, gR_sL, gI_sR, gI_sL, sh_cI, gR_cI, hm, n1, g1]
        exact hh
      · refine ok_cdt (by rw [ti_le, h1, ti_4]; decide) (ok_ret.mpr ⟨((f.up (by simp) (by simp)).tr (f'.up (by simp) (by simp))).tr (f''.up (by simp) (by simp)), fun k hk => ?_, fun k hk => ?_, fun k hk => ?_⟩)
        · rw [f''.i ⟨by decide, by simp⟩, f'.i ⟨by decide, by simp⟩]; exact e1 k hk
        · rw [f''.i ⟨by decide, by simp⟩, e1' k hk, f.i ⟨by decide, by simp⟩]
        · rw [e1'' k hk, f'.i ⟨by decide, by simp⟩, f.i ⟨by decide, by simp⟩]
theorem c_putBack (hN : 1000 ≤ N) (hL : Lay w) : ok (f_M_putBack N 133 w) (fun _ u => Fr [137, 139, 140] [] w u ∧ ((∀ k, k < 24 → gI u 139 k = gI w 157 k) ∧ (∀ k, k < 6 → gI u 140 k = gI w 158 k) ∧ ∀ k, k < 4 → gI u 137 k = gI w 159 k) ∧ (∀ k, 24 ≤ k → gI u 139 k = gI w 139 k) ∧ (∀ k, 6 ≤ k → gI u 140 k = gI w 140 k) ∧ ∀ k, 4 ≤ k → gI u 137 k = gI w 137 k) := by
  unfold f_M_putBack f_M_putBack_b0 f_M_putBack_l2
  refine cp_loop (dst := 139) (src := 157) (n := 24) (by omega) (by omega) (by decide) hL (fun rec u a1 k h1 hk hLu hh => ?_) (fun rec u a1 h1 hLu f e1 e2 => ?_)
  · have hm := lay_S hLu
    have n1 := nat_of h1
    have g1 := ix_of (m := 24) h1 hk
    rw [n1] at g1
    refine ok_cdf (by rw [ti_le, h1, ti_24]; omega) ?_
    simp only [ok_gd, ok_bd, ok_rr1, ok_nr0, ok_nr1, ok_ret, true_and, and_true, not_false_eq_true, sh_sI, sh_sR, sh_sL, gR_sI, gR_sL, gI_sR, gI_sL, sh_cI, gR_cI, hm, n1, g1]
    exact hh
  · refine ok_cdt (by rw [ti_le, h1, ti_24]; decide) ?_
    unfold f_M_putBack_l28
    refine cp_loop (dst := 140) (src := 158) (n := 6) (by omega) (by omega) (by decide) hLu (fun rec v a1 k h1 hk hLu hh => ?_) (fun rec v a1 h1 hLu f' e1' e2' => ?_)
    · have hm := lay_S hLu
      have n1 := nat_of h1
      have g1 := ix_of (m := 6) h1 hk
      rw [n1] at g1
      refine ok_cdf (by rw [ti_le, h1, ti_6]; omega) ?_
      simp only [ok_gd, ok_bd, ok_rr1, ok_nr0, ok_nr1, ok_ret, true_and, and_true, not_false_eq_true, sh_sI, sh_sR, sh_sL, gR_sI, gR_sL, gI_sR, gI_sL, sh_cI, gR_cI, hm, n1, g1]
      exact hh
    · refine ok_cdt (by rw [ti_le, h1, ti_6]; decide) ?_
      unfold f_M_putBack_l54
      refine cp_loop (dst := 137) (src := 159) (n := 4) (by omega) (by omega) (by decide) hLu (fun rec v a1 k h1 hk hLu hh => ?_) (fun rec z a1 h1 hLu f'' e1'' e2'' => ?_)
      · have hm := lay_S hLu
        have n1 := nat_of h1
        have g1 := ix_of (m := 4) h1 hk
        rw [n1] at g1
        refine ok_cdf (by rw [ti_le, h1, ti_4]; omega) ?_
        simp only [ok_gd, ok_bd, ok_rr1, ok_nr0, ok_nr1, ok_ret, true_and, and_true, not_false_eq_true, sh_sI, sh_sR, sh_sL, gR_sI, gR_sL, gI_sR, gI_sL, sh_cI, gR_cI, hm, n1, g1]
        exact hh
      · refine ok_cdt (by rw [ti_le, h1, ti_4]; decide) (ok_ret.mpr ⟨((f.up (by simp) (by simp)).tr (f'.up (by simp) (by simp))).tr (f''.up (by simp) (by simp)), ⟨fun k hk => ?_, fun k hk => ?_, fun k hk => ?_⟩, fun k hk => ?_, fun k hk => ?_, fun k hk => ?_⟩)
        · rw [f''.i ⟨by decide, by simp⟩, f'.i ⟨by decide, by simp⟩]; exact e1 k hk
        · rw [f''.i ⟨by decide, by simp⟩, e1' k hk, f.i ⟨by decide, by simp⟩]
        · rw [e1'' k hk, f'.i ⟨by decide, by simp⟩, f.i ⟨by decide, by simp⟩]
        · rw [f''.i ⟨by decide, by simp⟩, f'.i ⟨by decide, by simp⟩]; exact e2 k hk
        · rw [f''.i ⟨by decide, by simp⟩, e2' k hk, f.i ⟨by decide, by simp⟩]
        · rw [e2'' k hk, f'.i ⟨by decide, by simp⟩, f.i ⟨by decide, by simp⟩]
end GOES
