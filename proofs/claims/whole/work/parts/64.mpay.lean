/-! ===== a payment in the model: limits, hands, does one pay ===== -/
def MP (w : gW) (p kd v pd b : Nat) (pu ti ro : Nat → Int) (L : List Cl) : Prop :=
  Lay w ∧ MV w b L ∧ wrM w ∧ pdM w ∧ p < 4 ∧ ((gI w 135 p).toInt = (kd : Int) ∧ kd < 7 ∧ (gI w 136 p).toInt = (v : Int) ∧ v ≤ 9 ∧ (gI w 137 p).toInt = (pd : Int)) ∧
  (∀ s, s < 6 → (gI w 139 (6 * p + s)).toInt = pu s ∧ 0 ≤ pu s ∧ pu s ≤ 99) ∧ (∀ s, s < 6 → (gI w 140 s).toInt = ti s ∧ 0 ≤ ti s ∧ ti s ≤ 99) ∧ (∀ k, k < 4 → (gI w 138 (4 * p + k)).toInt = ro k ∧ 0 ≤ ro k ∧ ro k ≤ 5)
theorem nsc_m {a : Nat} (h : 134 ≤ a ∧ a ≤ 149) : nsc a := by unfold nsc; omega
theorem MP.sc {w u : gW} {p kd v pd b : Nat} {pu ti ro : Nat → Int} {L : List Cl} (h : MP w p kd v pd b pu ti ro L) (f : Fr ST SC w u) : MP u p kd v pd b pu ti ro L := by
  obtain ⟨h1, h2, h3, h4, h5, ⟨g1, g2, g3, g4, g5⟩, q1, q2, q3⟩ := h
  have n : ∀ a, 134 ≤ a ∧ a ≤ 149 → oP ST SC a := fun a h => (nsc_m h).o
  refine ⟨f.lay h1, h2.fr f (fun d h h' => n d (by omega)) (by decide), h3.c f (n _ (by omega)), h4.c f (n _ (by omega)), h5, ⟨by rw [f.i (n _ (by omega))]; exact g1, g2, by rw [f.i (n _ (by omega))]; exact g3, g4, by rw [f.i (n _ (by omega))]; exact g5⟩, fun s hs => ?_, fun s hs => ?_, fun k hk => ?_⟩
  · rw [f.i (n _ (by omega))]; exact q1 s hs
  · rw [f.i (n _ (by omega))]; exact q2 s hs
  · rw [f.i (n _ (by omega))]; exact q3 k hk
def MH (w : gW) (x : List Nat) : Prop := x.length = 6 ∧ ∀ s, s < 6 → (gI w 152 s).toInt = gx x s
theorem MH.fr {w u : gW} {x : List Nat} {T : List Nat} {C : List (Nat × Nat)} (f : Fr T C w u) (h1 : oP T C 152) (h : MH w x) : MH u x := ⟨h.1, fun s hs => by rw [f.i h1]; exact h.2 s hs⟩
theorem ti_6p {a c : Int32} {p s : Nat} (h : a.toInt = (p : Int)) (hp : p < 4) (g : c.toInt = (s : Int)) (hs : s < 24) : (6 * a + c).toInt = ((6 * p + s : Nat) : Int) := by
  have h1 : (6 * a).toInt = 6 * (p : Int) := by rw [ti_mul] <;> rw [ti_6, h] <;> omega
  rw [ti_add] <;> rw [h1, g] <;> omega
theorem ti_4p {a c : Int32} {p s : Nat} (h : a.toInt = (p : Int)) (hp : p < 4) (g : c.toInt = (s : Int)) (hs : s < 24) : (4 * a + c).toInt = ((4 * p + s : Nat) : Int) := by
  have h1 : (4 * a).toInt = 4 * (p : Int) := by rw [ti_mul] <;> rw [ti_4, h] <;> omega
  rw [ti_add] <;> rw [h1, g] <;> omega
section MPAY
variable {N p kd v pd b : Nat} {w : gW} {pu ti ro : Nat → Int} {L : List Cl} {x m : List Nat} {a1 : Int32}
set_option maxHeartbeats 1000000 in
theorem c_layLimits (hN : 1000 ≤ N) (hc : MP w p kd v pd b pu ti ro L) (h1 : a1.toInt = (p : Int)) :
    ok (f_M_layLimits N 133 a1 w) (fun _ u => Fr [150, 151, 152, 154] [] w u ∧ ∀ s, s < 6 → (gI u 151 s).toInt = ((limC L pu ti p kd pd (-1) s : Nat) : Int) ∧ gI u 152 s = 0 ∧ (gI u 154 s).toInt = heftF L s) := by
  have hc0 := hc
  obtain ⟨hL, hv, hwr, hpd, hp, ⟨g1, g2, g3, g4, g5⟩, q1, q2, q3⟩ := hc
  have hm := lay_M hL
  have hv' := hv
  obtain ⟨hl, -, hwf, -, -⟩ := hv'
  have hmo := mostF_in hwf
  have hlim := fun s => limC_in (pu := pu) (ti := ti) (p := p) (kd := kd) (pd := pd) (bar := -1) hwf s
  have elim : ∀ s, limC L pu ti p kd pd (-1) s = limN (mostF L) pu (kpF L ti p kd pd) s := fun s => by unfold limC; rw [if_neg (by omega)]
  generalize hlm : limC L pu ti p kd pd (-1) = lm at *
  unfold f_M_layLimits f_M_layLimits_b0
  simp only [ok_gd, ok_bd, ok_rr1, ok_nr0, ok_nr1, ok_ret, true_and, and_true, not_false_eq_true, sh_sI, sh_sR, sh_sL, gR_sI, gR_sL, gI_sR, gI_sL, sh_cI, gR_cI, hm]
  refine ok_call (c_mostNow hN hL hv) ?_
  rintro r u ⟨rfl, hr⟩
  unfold f_M_layLimits_l7
  refine itr_up (fun k q => q.1 = 133 ∧ q.2.1 = a1 ∧ q.2.2.1 = r ∧ q.2.2.2.1.toInt = (k : Int) ∧ Fr [150, 151, 152, 154] [] u q.2.2.2.2 ∧ ∀ s, s < k → (gI q.2.2.2.2 151 s).toInt = (lm s : Int) ∧ gI q.2.2.2.2 152 s = 0 ∧ (gI q.2.2.2.2 154 s).toInt = heftF L s) 6 ?_ ?_ N 0 _ (by omega) ?_ (by omega)
  · rintro rec k ⟨b0, b1, a2, a3, u1⟩ hk ⟨e0, e1, e2, e3, f, ej⟩ IH
    simp only at e0 e1 e2 e3 f ej
    subst e0 e1 e2
    have fsc : Fr ST SC u u1 := f.up (by simp) (by simp)
    obtain ⟨hL1, hv1, hwr1, hpd1, -, ⟨g1', -, -, -, g5'⟩, q1', q2', -⟩ := hc0.sc fsc
    have hm := lay_M hL1
    have n3 := nat_of e3
    have i3 := ix_of (m := 6) e3 hk
    rw [n3] at i3
    have k9 : k < 2147483647 := by omega
    have e6 := ti_6p h1 hp e3 (by omega)
    have n6 := nat_of e6
    have i6 := ix_of (m := 24) e6 (by omega)
    rw [n6] at i6
    have kin := keptF_in (L := L) (ft := fct k (ti k) p kd ((pd : Int) % 7)) hwf hl
    have hle := hlim k
    have fin : ∀ (u' : gW) (z : Int32), Fr [150] [] u1 u' → z.toInt = (lm k : Int) → ok (f_M_layLimits_b59 N rec 133 b1 a2 a3 z a3 151 u') (fun _ u' => Fr [150, 151, 152, 154] [] u u' ∧ ∀ s, s < 6 → (gI u' 151 s).toInt = (lm s : Int) ∧ gI u' 152 s = 0 ∧ (gI u' 154 s).toInt = heftF L s) := by
      intro u' z f' hz
      have f3 : Fr [150, 151, 152, 154] [] u u' := f.tr (f'.up (by simp) (by simp))
      have f4 : Fr [150, 151, 152, 154] [] u (sI (sI u' 151 k z) 152 k 0) := Fr_sI (Fr_sI f3 (by simp)) (by simp)
      obtain ⟨hL4, hv4, hwr4, hpd4, -⟩ := hc0.sc (f4.up (by simp) (by simp))
      have hm := lay_M (f3.lay hL)
      unfold f_M_layLimits_b59
      simp only [ok_gd, ok_bd, ok_rr1, ok_nr0, ok_nr1, ok_ret, true_and, and_true, not_false_eq_true, sh_sI, sh_sR, sh_sL, gR_sI, gR_sL, gI_sR, gI_sL, sh_cI, gR_cI, hm, n3, i3]
      refine ok_call (c_heft hN hL4 hv4 hwr4 hpd4 e3 hk) ?_
      rintro r2 u2 ⟨f5, hr2⟩
      have f6 : Fr [150, 151, 152, 154] [] u u2 := f4.tr (f5.up (by simp) (by simp))
      have hm := lay_M (f6.lay hL)
      simp only [ok_gd, ok_bd, ok_rr1, ok_nr0, ok_nr1, ok_ret, true_and, and_true, not_false_eq_true, sh_sI, sh_sR, sh_sL, gR_sI, gR_sL, gI_sR, gI_sL, sh_cI, gR_cI, hm, n3, i3]
      refine IH _ ?_
      refine ⟨rfl, rfl, rfl, ti_p1 e3 k9, Fr_sI f6 (by simp), fun s hs => ?_⟩
      simp only
      rw [gI_ne (by decide), gI_ne (by decide), f5.i ⟨by decide, by simp⟩, f5.i ⟨by decide, by simp⟩, gI_ne (by decide)]
      by_cases e : s = k
      · subst e
        refine ⟨by rw [gI_eq]; exact hz, by rw [gI_eq], by rw [gI_eq]; exact hr2⟩
      · have ejs := ej s (by omega)
        refine ⟨?_, ?_, ?_⟩
        · rw [gI_nk e, f'.i ⟨by decide, by simp⟩]; exact ejs.1
        · rw [gI_nk e, gI_ne (by decide), f'.i ⟨by decide, by simp⟩]; exact ejs.2.1
        · rw [gI_nk e, f5.i ⟨by decide, by simp⟩, gI_ne (by decide), gI_ne (by decide), f'.i ⟨by decide, by simp⟩]; exact ejs.2.2
    have mk := c_mkept (N := N) hN hL1 hv1 hwr1 hpd1 h1 hp e3 hk
    refine ok_cdf (by rw [ti_le, e3, ti_6]; omega) ?_
    simp only [ok_gd, ok_bd, ok_rr1, ok_nr0, ok_nr1, ok_ret, true_and, and_true, not_false_eq_true, sh_sI, sh_sR, sh_sL, gR_sI, gR_sL, gI_sR, gI_sL, sh_cI, gR_cI, hm, n6, i6]
    refine ok_call mk ?_
    rintro r1 u' ⟨f', hr1⟩
    rw [(q2' k hk).1, g1', g5'] at hr1
    have hk0 : r1.toInt = kpF L ti p kd pd k := hr1
    have d1 : (gI u1 139 (6 * p + k) - r1).toInt = pu k - kpF L ti p kd pd k := by
      have := (q1' k hk).2
      have e : 0 ≤ kpF L ti p kd pd k ∧ kpF L ti p kd pd k ≤ 990 := kin
      rw [ti_sub] <;> rw [(q1' k hk).1, hk0] <;> omega
    have el := elim k
    unfold limN at el
    generalize gI u1 139 (6 * p + k) - r1 = x16 at d1
    have hm := lay_M (f'.lay hL1)
    simp only [ok_gd, ok_bd, ok_rr1, ok_nr0, ok_nr1, ok_ret, true_and, and_true, not_false_eq_true, sh_sI, sh_sR, sh_sL, gR_sI, gR_sL, gI_sR, gI_sL, sh_cI, gR_cI, hm]
    rw [ok_cd]
    refine ⟨fun c => ?_, fun c => ?_⟩
    · rw [ti_le, ti_0, d1] at c
      rw [ok_cd]
      refine ⟨fun d => ?_, fun d => ?_⟩
      · rw [ti_le, hr, d1] at d
        exact fin u' _ f' (by rw [hr]; omega)
      · rw [ti_le, hr, d1] at d
        exact fin u' _ f' (by rw [d1]; omega)
    · rw [ti_le, ti_0, d1] at c
      exact fin u' _ f' (by rw [ti_0]; omega)
  · rintro rec ⟨b0, b1, a2, a3, u1⟩ ⟨e0, e1, e2, e3, f, ej⟩
    simp only at e0 e1 e2 e3 f ej
    subst e0 e1 e2
    refine ok_cdt (by rw [ti_le, e3, ti_6]; decide) ?_
    exact ok_ret.mpr ⟨f, ej⟩
  · exact ⟨rfl, rfl, rfl, rfl, Fr.rf, fun s hs => absurd hs (by omega)⟩
theorem c_nextL (hL : Lay w) (hm : ∀ s, s < 6 → (gI w 151 s).toInt = gx m s) (hm2 : ∀ s, m.getD s 0 ≤ 2) (F : (Nat × Int32 × gW → Option (Int32 × gW)) → Nat × Int32 × gW → Option (Int32 × gW)) (eF : ∀ rec q, F rec q = f_M_nextHand_b2 N rec q.1 q.2.1 q.2.2) :
    ∀ (k n : Nat) (x : List Nat) (u : gW) (a1 : Int32), k ≤ 6 → k < n → a1.toInt = (k : Int) - 1 → Fr [152] [] w u → MH u x → h2 x →
      ok (itr F n (133, a1, u)) (fun r u' => Fr [152] [] w u' ∧ ((∃ y, nxL m k x = some y ∧ r.toInt = 1 ∧ MH u' y ∧ h2 y) ∨ (nxL m k x = none ∧ r.toInt = 0))) := by
  intro k
  induction k with
  | zero =>
    intro n x u a1 _ hn h1 f _ _
    obtain ⟨n, rfl⟩ : ∃ j, n = j + 1 := ⟨n - 1, by omega⟩
    rw [itr_s, eF]
    unfold f_M_nextHand_b2
    exact ok_cdt (by rw [ti_lt, ti_0]; show a1.toInt < 0; omega) (ok_ret.mpr ⟨f, Or.inr ⟨rfl, ti_0⟩⟩)
  | succ k ih =>
    intro n x u a1 hk hn h1 f hs hx
    obtain ⟨n, rfl⟩ : ∃ j, n = j + 1 := ⟨n - 1, by omega⟩
    have hmm := lay_M (f.lay hL)
    have h1' : a1.toInt = (k : Int) := by omega
    have hk6 : k < 6 := by omega
    have n1 := nat_of h1'
    have g1 := ix_of (m := 6) h1' hk6
    rw [n1] at g1
    have e1 := hs.2 k hk6
    have e2 : (gI u 151 k).toInt = gx m k := by rw [f.i ⟨by decide, by simp⟩]; exact hm k hk6
    have gk := hx.g k
    have gm : gx m k ≤ 2 := by have := hm2 k; unfold gx; omega
    have hm0 : a1.toInt - 1 = (k : Int) - 1 := by omega
    have hlen := hs.1
    rw [itr_s, eF]
    unfold f_M_nextHand_b2
    refine ok_cdf (by rw [ti_lt, ti_0]; show ¬ a1.toInt < 0; omega) ?_
    simp (disch := decide) only [ok_gd, ok_bd, ok_rr1, ok_nr0, ok_nr1, ok_ret, true_and, and_true, not_false_eq_true, sh_sI, sh_sR, sh_sL, gR_sI, gR_sL, gI_sR, gI_sL, sh_cI, gR_cI, hmm, n1, g1, gI_eq, gI_ne]
    have t1 : (gI u 152 k + 1).toInt = gx x k + 1 := by rw [ti_add1 (by omega), e1]
    rw [ok_cd]
    refine ⟨fun c => ?_, fun c => ?_⟩
    · rw [ti_lt, e2, t1] at c
      simp only [ok_bd]
      refine (ih n (x.set k 0) _ _ (by omega) (by omega) ?_ (Fr_sI (Fr_sI f (by simp)) (by simp)) ⟨by rw [List.length_set]; exact hlen, fun s hs6 => ?_⟩ (h2_set hx (by omega))).mono ?_
      · clear t1; rw [ti_addm1 (by omega)]; exact hm0
      · rw [gx_set (by omega), gI_sI]
        by_cases e : s = k
        · rw [if_pos ⟨rfl, e⟩, if_pos e]; rfl
        · rw [if_neg (fun z => e z.2), if_neg e, gI_nk e]; exact hs.2 s hs6
      · rintro r u' ⟨f', h⟩
        refine ⟨f', ?_⟩
        simp only [nxL]
        rw [if_neg (by unfold gx at c; omega)]
        exact h
    · rw [ti_lt, e2, t1] at c
      refine ok_ret.mpr ⟨Fr_sI f (by simp), Or.inl ⟨x.set k (x.getD k 0 + 1), ?_, ti_1, ⟨by rw [List.length_set]; exact hlen, fun s hs6 => ?_⟩, h2_set hx (by unfold gx at c gm; omega)⟩⟩
      · simp only [nxL]; rw [if_pos (by unfold gx at c; omega)]
      · rw [gx_set (by omega), gI_sI]
        by_cases e : s = k
        · rw [if_pos ⟨rfl, e⟩, if_pos e, t1]; unfold gx; omega
        · rw [if_neg (fun z => e z.2), if_neg e]; exact hs.2 s hs6
theorem c_nextHand (hN : 1000 ≤ N) (hL : Lay w) (hml : m.length = 6) (hm : ∀ s, s < 6 → (gI w 151 s).toInt = gx m s) (hm2 : ∀ s, m.getD s 0 ≤ 2) (hs : MH w x) (hx : h2 x) :
    ok (f_M_nextHand N 133 w) (fun r u => Fr [152] [] w u ∧ ((∃ y, nxt m x = some y ∧ r.toInt = 1 ∧ MH u y ∧ h2 y) ∨ (nxt m x = none ∧ r.toInt = 0))) := by
  have := c_nextL (N := N) hL hm hm2 _ (fun _ _ => rfl) 6 N x w 5 (by omega) (by omega) (by decide) Fr.rf hs hx
  rw [nx_eq hml hs.1]
  exact this
def MS (w : gW) (x : List Nat) : Prop := (gI w 133 32).toInt = hsum x ∧ (gI w 133 33).toInt = hcnt x
set_option maxHeartbeats 1000000 in
theorem c_laySum (hN : 1000 ≤ N) (hL : Lay w) (hwr : wrM w) (hs : MH w x) (hx : h2 x) :
    ok (f_M_laySum N 133 w) (fun _ u => Fr [] [(133, 32), (133, 33)] w u ∧ MS u x) := by
  have hm := lay_M hL
  obtain ⟨S, S0, S1, S6, SB⟩ := sum6 (f := fun s => gx x s * wo s)
  obtain ⟨T, T0, T1, T6, TB⟩ := sum6 (f := fun s => gx x s)
  have eS : S 6 = hsum x := by rw [S6]; unfold hsum; simp only [wo]; omega
  have eT : T 6 = hcnt x := by rw [T6]; rfl
  unfold f_M_laySum f_M_laySum_b0 f_M_laySum_l12
  simp only [ok_gd, ok_bd, ok_rr1, ok_nr0, ok_nr1, ok_ret, true_and, and_true, not_false_eq_true, sh_sI, sh_sR, sh_sL, gR_sI, gR_sL, gI_sR, gI_sL, sh_cI, gR_cI, hm]
  refine itr_up (fun k q => q.1 = 133 ∧ q.2.1.toInt = (k : Int) ∧ Fr [] [(133, 32), (133, 33)] w q.2.2 ∧ (gI q.2.2 133 32).toInt = S k ∧ (gI q.2.2 133 33).toInt = T k) 6 ?_ ?_ N 0 _ (by omega) ?_ (by omega)
  · rintro rec k ⟨b0, a1, u⟩ hk ⟨e0, e1, f, e8, e9⟩ IH
    simp only at e0 e1 f e8 e9
    subst e0
    have hm := lay_M (f.lay hL)
    have n1 := nat_of e1
    have g1 := ix_of (m := 6) e1 hk
    rw [n1] at g1
    have k9 : k < 2147483647 := by omega
    have v2 : (gI u 152 k).toInt = gx x k := by rw [f.i ⟨by simp, by simp⟩]; exact hs.2 k hk
    have v4 : (gI u 134 k).toInt = wo k := by rw [f.i ⟨by simp, by simp⟩]; exact hwr k hk
    have gk := hx.g k
    have wi := wo_in (s := k)
    have SBk := SB 100 k (fun j _ => mul_in (hx.g j) ⟨by have := wo_in (s := j); omega, (wo_in (s := j)).2⟩)
    have TBk := TB 2 k (fun j _ => hx.g j)
    have mk : 0 ≤ gx x k * wo k ∧ gx x k * wo k ≤ 2 * 50 := mul_in gk ⟨by omega, wi.2⟩
    have m1 : (gI u 152 k * gI u 134 k).toInt = gx x k * wo k := by rw [ti_mul] <;> rw [v2, v4] <;> omega
    have t8 : (gI u 133 32 + gI u 152 k * gI u 134 k).toInt = S (k + 1) := by rw [S1, ti_add] <;> rw [m1, e8] <;> omega
    clear m1
    have t9 : (gI u 133 33 + gI u 152 k).toInt = T (k + 1) := by rw [T1, ti_add] <;> rw [v2, e9] <;> omega
    refine ok_cdf (by rw [ti_le, e1, ti_6]; omega) ?_
    simp (disch := decide) only [ok_gd, ok_bd, ok_rr1, ok_nr0, ok_nr1, ok_ret, true_and, and_true, not_false_eq_true, sh_sI, sh_sR, sh_sL, gR_sI, gR_sL, gI_sR, gI_sL, sh_cI, gR_cI, gI_ne, gI_nk, hm, n1, g1]
    refine IH _ ?_
    refine ⟨rfl, ti_p1 e1 k9, Fr_sI (Fr_sI f (by simp)) (by simp), ?_, ?_⟩
    · simp only; rw [gI_nk (by decide), gI_eq]; exact t8
    · simp only; rw [gI_eq]; exact t9
  · rintro rec ⟨b0, a1, u⟩ ⟨e0, e1, f, e8, e9⟩
    simp only at e0 e1 f e8 e9
    subst e0
    refine ok_cdt (by rw [ti_le, e1, ti_6]; decide) ?_
    exact ok_ret.mpr ⟨f, by rw [e8, eS], by rw [e9, eT]⟩
  · refine ⟨rfl, rfl, Fr_sI (Fr_sI Fr.rf (by simp)) (by simp), ?_, ?_⟩
    · simp only; rw [gI_nk (by decide), gI_eq, S0]; rfl
    · simp only; rw [gI_eq, T0]; rfl
end MPAY
