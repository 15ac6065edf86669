/-! ===== payer =====  -/
section PAYER
variable {N O c j k : Nat} {w u v z : gW} {a1 a2 a3 x : Int32}
/-- a new payer stands at the end -/
def NP (w v : gW) (a1 x a2 : Int32) : Prop := Ao w v ∧ nx w < nx v ∧ (sh v (nx w)).1 < 7 ∧ ((sh v (nx w)).1 : Int) = a1.toInt ∧ gI v (nx w) 0 = a1 ∧ gI v (nx w) 1 = x ∧ gI v (nx w) 2 = a2
theorem NP_of {kd : Nat} (hk : kd < 7) (ha : a1.toInt = (kd : Int)) : NP w (sI (sI (sI (nw w kd 0) (nx w) 0 a1) (nx w) 1 x) (nx w) 2 a2) a1 x a2 := by
  have hs : sh (sI (sI (sI (nw w kd 0) (nx w) 0 a1) (nx w) 1 x) (nx w) 2 a2) (nx w) = (kd, 0) := by
    show (if nx w = w.1 then (kd, 0) else _) = _
    exact if_pos rfl
  refine ⟨⟨Nat.le_succ _, fun a ha => ⟨?_, fun k => ?_, fun k => ?_, fun k => ?_⟩⟩, Nat.lt_succ_self _, by rw [hs]; exact hk, by rw [hs, ha], ?_, ?_, ?_⟩
  · have hn : a ≠ w.1 := by unfold nx at ha; omega
    show (if a = w.1 then (kd, 0) else w.2.1 a) = _
    exact if_neg hn
  · have hn : a ≠ nx w := by omega
    rw [gI_sI, if_neg (fun z => hn z.1), gI_sI, if_neg (fun z => hn z.1), gI_sI, if_neg (fun z => hn z.1)]
    show (if a = w.1 then (0 : Int32) else w.2.2.1 a k) = _
    exact if_neg hn
  · have hn : a ≠ w.1 := by unfold nx at ha; omega
    show (if a = w.1 then (0 : Int64) else w.2.2.2.1 a k) = _
    exact if_neg hn
  · have hn : a ≠ w.1 := by unfold nx at ha; omega
    show (if a = w.1 then none else w.2.2.2.2 a k) = _
    exact if_neg hn
  · rw [gI_nk (by decide), gI_nk (by decide), gI_eq]
  · rw [gI_nk (by decide), gI_eq]
  · rw [gI_eq]
abbrev I3 (w : gW) (a : Nat) (x y z : Int32) : gW := sI (sI (sI w a 0 x) a 1 y) a 2 z
theorem c_Pi {a : Nat} {x y z : Int32} (h : (sh w a).1 < 7) : ok (f_P_init N a x y z w) (fun _ u => u = I3 w a x y z) := by
  have s1 : ∀ (u : gW) (a k : Nat) (y : Int32) (b : Nat), sh (sI u a k y) b = sh u b := fun _ _ _ _ _ => rfl
  unfold f_P_init f_P_init_b0
  simp only [ok_gd, ok_bd, ok_ret, true_and, and_true, s1, h]
theorem c_Ei {a : Nat} {x y z : Int32} (h : (sh w a).1 < 7) : ok (f_E_init N a x y z w) (fun _ u => u = I3 w a x y z) := by
  unfold f_E_init f_E_init_b0
  simp only [ok_gd, true_and, h]
  exact ok_call (c_Pi h) (fun _ _ h => ok_ret.mpr h)
theorem c_Roi {a : Nat} {x y z : Int32} (h : (sh w a).1 < 7) : ok (f_Ro_init N a x y z w) (fun _ u => u = I3 w a x y z) := by
  unfold f_Ro_init f_Ro_init_b0
  simp only [ok_gd, true_and, h]
  exact ok_call (c_Pi h) (fun _ _ h => ok_ret.mpr h)
theorem c_Kei {a : Nat} {x y z : Int32} (h : (sh w a).1 < 7) : ok (f_Ke_init N a x y z w) (fun _ u => u = I3 w a x y z) := by
  unfold f_Ke_init f_Ke_init_b0
  simp only [ok_gd, true_and, h]
  exact ok_call (c_Pi h) (fun _ _ h => ok_ret.mpr h)
theorem c_Lii {a : Nat} {y z : Int32} (h : (sh w a).1 < 7) : ok (f_Li_init N a y z w) (fun _ u => u = I3 w a 4 y z) := by
  unfold f_Li_init f_Li_init_b0
  simp only [ok_gd, true_and, h]
  exact ok_call (c_Ei h) (fun _ _ h => ok_ret.mpr h)
theorem c_Wii {a : Nat} {y z : Int32} (h : (sh w a).1 < 7) : ok (f_Wi_init N a y z w) (fun _ u => u = I3 w a 5 y z) := by
  unfold f_Wi_init f_Wi_init_b0
  simp only [ok_gd, true_and, h]
  exact ok_call (c_Roi h) (fun _ _ h => ok_ret.mpr h)
theorem c_Toi {a : Nat} {y z : Int32} (h : (sh w a).1 < 7) : ok (f_To_init N a y z w) (fun _ u => u = I3 w a 6 y z) := by
  unfold f_To_init f_To_init_b0
  simp only [ok_gd, true_and, h]
  exact ok_call (c_Kei h) (fun _ _ h => ok_ret.mpr h)
theorem c_newPayer (h : 0 ≤ a1.toInt ∧ a1.toInt < 7) : ok (f_X_newPayer N a1 x a2 w) (fun r v => r = some (nx w) ∧ NP w v a1 x a2) := by
  have hsn : ∀ kd : Nat, kd < 7 → (sh (nw w kd 0) (nx w)).1 < 7 := fun kd hk => by
    have : sh (nw w kd 0) (nx w) = (kd, 0) := by
      show (if nx w = w.1 then (kd, 0) else _) = _
      exact if_pos rfl
    rw [this]; exact hk
  unfold f_X_newPayer f_X_newPayer_b0
  rw [ok_cd]
  refine ⟨fun e => ?_, fun e1 => ?_⟩
  · have h1 := hsn 1 (by decide)
    simp only [ok_bd, ok_gd]
    refine ⟨h1, ok_call (c_Ei h1) ?_⟩
    rintro - v rfl
    refine ok_ret.mpr ⟨rfl, ?_⟩
    rw [e]; exact NP_of (kd := 1) (a1 := 1) (by decide) rfl
  rw [ok_cd]
  refine ⟨fun e => ?_, fun e2 => ?_⟩
  · have h1 := hsn 2 (by decide)
    simp only [ok_bd, ok_gd]
    refine ⟨h1, ok_call (c_Roi h1) ?_⟩
    rintro - v rfl
    refine ok_ret.mpr ⟨rfl, ?_⟩
    rw [e]; exact NP_of (kd := 2) (a1 := 2) (by decide) rfl
  rw [ok_cd]
  refine ⟨fun e => ?_, fun e3 => ?_⟩
  · have h1 := hsn 3 (by decide)
    simp only [ok_bd, ok_gd]
    refine ⟨h1, ok_call (c_Kei h1) ?_⟩
    rintro - v rfl
    refine ok_ret.mpr ⟨rfl, ?_⟩
    rw [e]; exact NP_of (kd := 3) (a1 := 3) (by decide) rfl
  rw [ok_cd]
  refine ⟨fun e => ?_, fun e4 => ?_⟩
  · have h1 := hsn 4 (by decide)
    simp only [ok_bd, ok_gd]
    refine ⟨h1, ok_call (c_Lii h1) ?_⟩
    rintro - v rfl
    refine ok_ret.mpr ⟨rfl, ?_⟩
    rw [e]; exact NP_of (kd := 4) (a1 := 4) (by decide) rfl
  rw [ok_cd]
  refine ⟨fun e => ?_, fun e5 => ?_⟩
  · have h1 := hsn 5 (by decide)
    simp only [ok_bd, ok_gd]
    refine ⟨h1, ok_call (c_Wii h1) ?_⟩
    rintro - v rfl
    refine ok_ret.mpr ⟨rfl, ?_⟩
    rw [e]; exact NP_of (kd := 5) (a1 := 5) (by decide) rfl
  rw [ok_cd]
  refine ⟨fun e => ?_, fun e6 => ?_⟩
  · have h1 := hsn 6 (by decide)
    simp only [ok_bd, ok_gd]
    refine ⟨h1, ok_call (c_Toi h1) ?_⟩
    rintro - v rfl
    refine ok_ret.mpr ⟨rfl, ?_⟩
    rw [e]; exact NP_of (kd := 6) (a1 := 6) (by decide) rfl
  rw [ti_eq, ti_1] at e1
  rw [ti_eq, ti_2] at e2
  rw [ti_eq, ti_3] at e3
  rw [ti_eq, ti_4] at e4
  rw [ti_eq, ti_5] at e5
  rw [ti_eq, ti_6] at e6
  have e0 : a1 = 0 := by rw [ti_eq, ti_0]; omega
  have h1 := hsn 0 (by decide)
  simp only [ok_bd, ok_gd]
  refine ⟨h1, ok_call (c_Pi h1) ?_⟩
  rintro - v rfl
  refine ok_ret.mpr ⟨rfl, ?_⟩
  rw [e0]; exact NP_of (kd := 0) (a1 := 0) (by decide) rfl
/-- the model: what is zeroed was zero -/
theorem c_Mp97 (hN : 1000 ≤ N) (hL : Lay w) (hc : (gI w 133 0).toInt = (c : Int)) (hc4 : c < 4) (hz : ∀ k, k < 6 → gI w 139 (6 * c + k) = 0) : ok (f_M_payer_l97 N 133 0 w) (fun r u => r.toInt = (c : Int) ∧ Fr [] [(133, 0)] w u ∧ (gI u 133 0).toInt = ((c + 1 : Nat) : Int)) := by
  have hx : sh w 133 = (12, 0) ∧ gR w 133 6 = some 139 ∧ sh w 139 = (50, 24) := ⟨hL.1 133 (by decide), hL.2.1 (133, 6, 139) (by decide), hL.1 139 (by decide)⟩
  unfold f_M_payer_l97
  refine itr_up (fun k q => q.1 = 133 ∧ q.2.1.toInt = (k : Int) ∧ Fr [] [] w q.2.2) 6 ?_ ?_ N 0 _ (by omega) ?_ (by omega)
  · rintro rec k ⟨b0, a3, u⟩ hk ⟨e0, e1, f⟩ IH
    simp only at e0 e1 f
    subst e0
    have hxu : sh u 133 = (12, 0) ∧ gR u 133 6 = some 139 ∧ sh u 139 = (50, 24) := by rw [f.s, f.r (by simp), f.s]; exact hx
    have hcu : (gI u 133 0).toInt = (c : Int) := by rw [f.i (by simp)]; exact hc
    have e2 : (6 * gI u 133 0 + a3).toInt = ((6 * c + k : Nat) : Int) := ti_6p hcu (by omega) e1 (by omega)
    have n2 := nat_of e2
    have g2 := ix_of (m := 24) e2 (by omega)
    rw [n2] at g2
    have k9 : a3.toInt < 2147483647 := by omega
    show ok (f_M_payer_b97 N rec 133 a3 u) _
    unfold f_M_payer_b97
    refine ok_cdf (by rw [ti_le, e1, ti_6]; omega) ?_
    simp only [ok_gd, ok_rr, ok_bd, true_and, hxu, n2, g2, not_false_eq_true]
    refine ⟨_, rfl, ?_⟩
    simp only [ok_gd, ok_bd, true_and, hxu, n2, g2, not_false_eq_true]
    refine IH _ ⟨rfl, ti_p1 e1 (by omega), f.1, fun a q _ _ => ?_, f.2.2.1, f.2.2.2.1, f.2.2.2.2.1, f.2.2.2.2.2⟩
    show gI (sI u 139 (6 * c + k) 0) a q = _
    rw [gI_sI]
    by_cases e : a = 139 ∧ q = 6 * c + k
    · rw [if_pos e, e.1, e.2, hz k hk]
    · rw [if_neg e]; exact f.i (by simp)
  · rintro rec ⟨b0, a3, u⟩ ⟨e0, e1, f⟩
    simp only at e0 e1 f
    subst e0
    have hxu : sh u 133 = (12, 0) := by rw [f.s]; exact hx.1
    have hcu : (gI u 133 0).toInt = (c : Int) := by rw [f.i (by simp)]; exact hc
    have hp1 : (gI u 133 0 + 1).toInt = ((c + 1 : Nat) : Int) := ti_p1 hcu (by omega)
    show ok (f_M_payer_b97 N rec 133 a3 u) _
    unfold f_M_payer_b97
    refine ok_cdt (by rw [ti_le, e1, ti_6]; decide) ?_
    simp only [ok_gd, ok_bd, ok_rr1, ok_nr0, ok_nr1, ok_ret, true_and, and_true, not_false_eq_true, sh_sI, sh_sR, sh_sL, gR_sI, gR_sL, gI_sR, gI_sL, sh_cI, gR_cI, hxu, gI_eq]
    refine ⟨?_, Fr_sI (f.up (by simp) (by simp)) (by simp), hp1⟩
    rw [ti_sub1 (by rw [hp1]; omega), hp1]; omega
  · exact ⟨rfl, rfl, Fr.rf⟩
theorem c_Mp70 (hN : 1000 ≤ N) (hL : Lay w) (hc : (gI w 133 0).toInt = (c : Int)) (hc4 : c < 4) (hz : ∀ k, k < 6 → gI w 139 (6 * c + k) = 0) (hz2 : ∀ k, k < 4 → gI w 138 (4 * c + k) = 0) : ok (f_M_payer_l70 N 133 0 w) (fun r u => r.toInt = (c : Int) ∧ Fr [] [(133, 0)] w u ∧ (gI u 133 0).toInt = ((c + 1 : Nat) : Int)) := by
  have hx : sh w 133 = (12, 0) ∧ gR w 133 5 = some 138 ∧ sh w 138 = (50, 16) := ⟨hL.1 133 (by decide), hL.2.1 (133, 5, 138) (by decide), hL.1 138 (by decide)⟩
  unfold f_M_payer_l70
  refine itr_up (fun k q => q.1 = 133 ∧ q.2.1.toInt = (k : Int) ∧ Fr [] [] w q.2.2) 4 ?_ ?_ N 0 _ (by omega) ?_ (by omega)
  · rintro rec k ⟨b0, a3, u⟩ hk ⟨e0, e1, f⟩ IH
    simp only at e0 e1 f
    subst e0
    have hxu : sh u 133 = (12, 0) ∧ gR u 133 5 = some 138 ∧ sh u 138 = (50, 16) := by rw [f.s, f.r (by simp), f.s]; exact hx
    have hcu : (gI u 133 0).toInt = (c : Int) := by rw [f.i (by simp)]; exact hc
    have e2 : (4 * gI u 133 0 + a3).toInt = ((4 * c + k : Nat) : Int) := ti_4p hcu (by omega) e1 (by omega)
    have n2 := nat_of e2
    have g2 := ix_of (m := 16) e2 (by omega)
    rw [n2] at g2
    show ok (f_M_payer_b70 N rec 133 a3 u) _
    unfold f_M_payer_b70
    refine ok_cdf (by rw [ti_le, e1, ti_4]; omega) ?_
    simp only [ok_gd, ok_rr, ok_bd, true_and, hxu, n2, g2, not_false_eq_true]
    refine ⟨_, rfl, ?_⟩
    simp only [ok_gd, ok_bd, true_and, hxu, n2, g2, not_false_eq_true]
    refine IH _ ⟨rfl, ti_p1 e1 (by omega), f.1, fun a q _ _ => ?_, f.2.2.1, f.2.2.2.1, f.2.2.2.2.1, f.2.2.2.2.2⟩
    show gI (sI u 138 (4 * c + k) 0) a q = _
    rw [gI_sI]
    by_cases e : a = 138 ∧ q = 4 * c + k
    · rw [if_pos e, e.1, e.2, hz2 k hk]
    · rw [if_neg e]; exact f.i (by simp)
  · rintro rec ⟨b0, a3, u⟩ ⟨e0, e1, f⟩
    simp only at e0 e1 f
    subst e0
    show ok (f_M_payer_b70 N rec 133 a3 u) _
    unfold f_M_payer_b70
    refine ok_cdt (by rw [ti_le, e1, ti_4]; decide) ?_
    refine (c_Mp97 hN (f.lay hL) (by rw [f.i (by simp)]; exact hc) hc4 (fun k hk => by rw [f.i (by simp)]; exact hz k hk)).mono ?_
    rintro r z ⟨h1, h2, h3⟩
    exact ⟨h1, (f.up (by simp) (by simp)).tr h2, h3⟩
  · exact ⟨rfl, rfl, Fr.rf⟩
set_option maxRecDepth 20000 in
theorem ref10 : ∀ t ∈ refT, t.1 ≠ 10 := by decide
/-- the relation after -/
theorem payer_fin {v z : gW} (h : Sim w) (hv : NP w v a1 x a2) (hc : (gI w 133 0).toInt = (c : Int)) (hc4 : c < 4) (hx : x.toInt = (c : Int)) (h1 : 0 ≤ a1.toInt ∧ a1.toInt < 7) (h2 : 0 ≤ a2.toInt ∧ a2.toInt ≤ 9)
    (f : Fr [10, 135, 136] [(9, 1), (133, 0)] v z) (g10 : ∀ p, gR z 10 p = if p = c then some (nx w) else gR v 10 p) (g1 : (gI z 9 1).toInt = ((c + 1 : Nat) : Int)) (g0 : (gI z 133 0).toInt = ((c + 1 : Nat) : Int)) (g5 : ∀ p, gI z 135 p = if p = c then a1 else gI v 135 p) (g6 : ∀ p, gI z 136 p = if p = c then a2 else gI v 136 p) : Sim z := by
  have hS := h.ag hv.1
  have hcv : (gI v 133 0).toInt = (c : Int) := by
    rw [((hv.1.2 133 (by have := h.1.2.2; omega)).2.1 0)]; exact hc
  have n182 := h.1.2.2
  refine hS.u_payer f ?_ ?_ ?_ ?_ ?_ ?_ ?_ ?_ ?_ ?_
  · unfold S_acnt eqC; rw [ti_eq, g1, g0]
  · unfold S_acntr rgC; rw [g0]; omega
  · intro p hp hl
    rw [g0] at hl
    by_cases e : p = c
    · refine ⟨nx w, by rw [g10, if_pos e], n182, by rw [f.1]; exact hv.2.1, ?_⟩
      have o : oP [10, 135, 136] [(9, 1), (133, 0)] (nx w) := ⟨by simp; omega, by simp; omega⟩
      rw [f.s, f.i o, f.i o, f.i o, g5, if_pos e, g6, if_pos e]
      exact ⟨hv.2.2.1, hv.2.2.2.1, hv.2.2.2.2.1, by rw [hv.2.2.2.2.2.1, e, ← hx, J_toInt], hv.2.2.2.2.2.2⟩
    · obtain ⟨o, o1, o2, o3, o4⟩ := hS.2.1.apyr p hp (by rw [hcv]; omega)
      have oo : oP [10, 135, 136] [(9, 1), (133, 0)] o := ⟨by simp; omega, by simp; omega⟩
      refine ⟨o, by rw [g10, if_neg e]; exact o1, o2, by rw [f.1]; exact o3, ?_⟩
      rw [f.s, f.i oo, f.i oo, f.i oo, g5, if_neg e, g6, if_neg e]
      exact o4
  · intro p o hp ho
    rw [g10] at ho
    by_cases e : p = c
    · rw [if_pos e] at ho
      cases ho
      exact ⟨n182, by rw [f.1]; exact hv.2.1, by rw [f.s]; exact hv.2.2.1⟩
    · rw [if_neg e] at ho
      obtain ⟨o1, o2, o3⟩ := hS.2.1.apyo p o hp ho
      exact ⟨o1, by rw [f.1]; exact o2, by rw [f.s]; exact o3⟩
  · intro p hp
    rw [g5]
    by_cases e : p = c
    · rw [if_pos e]; omega
    · rw [if_neg e]; exact hS.2.1.aknd p hp
  · intro p hp
    rw [g6]
    by_cases e : p = c
    · rw [if_pos e]; exact h2
    · rw [if_neg e]; exact hS.2.1.av p hp
  · intro p k hp hk hl
    rw [g0] at hl
    rw [f.i (by decide)]; exact hS.2.1.apurz p k hp hk (by rw [hcv]; omega)
  · intro p k hp hk hl
    rw [g0] at hl
    rw [f.i (by decide)]; exact hS.2.1.arowz p k hp hk (by rw [hcv]; omega)
  · intro p k hp hk hl
    rw [g0] at hl
    rw [f.i (by decide)]; exact hS.2.1.apadz p k hp hk (by rw [hcv]; omega)
  · intro k hk hl
    rw [f.c (by decide)] at hl
    have := hS.2.1.abwl k hk hl
    rw [hcv] at this
    rw [f.i (by decide), g0]; omega
set_option maxHeartbeats 1000000 in
theorem p_payer (hN : 1000 ≤ N) (h : Sim w) : ok (f_X_payer N 0 a1 a2 w) (fun r w1 => ok (f_M_payer N 133 a1 a2 w1) (fun r' w2 => r = r' ∧ Sim w2)) := by
  have hx := lay_X h.1
  have hm := lay_M h.1
  have hcr : 0 ≤ (gI w 133 0).toInt ∧ (gI w 133 0).toInt ≤ 4 := h.2.1.acntr
  have hac : gI w 9 1 = gI w 133 0 := h.2.1.acnt
  obtain ⟨c, hc⟩ : ∃ c : Nat, (gI w 133 0).toInt = (c : Int) := ⟨(gI w 133 0).toInt.toNat, by omega⟩
  -- what the model asks first
  have mod : ∀ (Q : Int32 → gW → Prop) (u : gW), Lay u → (¬ (0 ≤ a1.toInt ∧ a1.toInt ≤ 6) → Q (-1) u) → ((0 ≤ a1.toInt ∧ a1.toInt ≤ 6) → ¬ (0 ≤ a2.toInt ∧ a2.toInt ≤ 9) → Q (-2) u) → ((0 ≤ a1.toInt ∧ a1.toInt ≤ 6) → (0 ≤ a2.toInt ∧ a2.toInt ≤ 9) → (gI u 133 0).toInt = 4 → Q (-4) u) →
      ((0 ≤ a1.toInt ∧ a1.toInt ≤ 6) → (0 ≤ a2.toInt ∧ a2.toInt ≤ 9) → ∀ c : Nat, c < 4 → (gI u 133 0).toInt = (c : Int) → ok (f_M_payer_l70 N 133 0 (sI (sI (sI u 135 c a1) 136 c a2) 137 c 0)) Q) → (0 ≤ (gI u 133 0).toInt ∧ (gI u 133 0).toInt ≤ 4) → ok (f_M_payer N 133 a1 a2 u) Q := by
    intro Q u hL q1 q2 q3 q4 hr
    have hm := lay_M hL
    have hy : gR u 133 2 = some 135 ∧ gR u 133 3 = some 136 ∧ gR u 133 4 = some 137 ∧ sh u 135 = (50, 4) ∧ sh u 136 = (50, 4) ∧ sh u 137 = (50, 4) := ⟨hL.2.1 (133, 2, 135) (by decide), hL.2.1 (133, 3, 136) (by decide), hL.2.1 (133, 4, 137) (by decide), hL.1 135 (by decide), hL.1 136 (by decide), hL.1 137 (by decide)⟩
    unfold f_M_payer f_M_payer_b0
    simp only [ok_gd, true_and, hm]
    refine ok_call c_Min ?_
    rintro r1 u1 ⟨rfl, hr1⟩
    rw [ti_0, ti_6] at hr1
    rw [ok_cd]
    refine ⟨fun e => ok_ret.mpr (q1 (hr1.z.mp e)), fun e => ?_⟩
    have e1 := Classical.not_not.mp (fun z => e (hr1.z.mpr z))
    simp only [ok_gd, true_and, hm]
    refine ok_call c_Min ?_
    rintro r2 u2 ⟨rfl, hr2⟩
    rw [ti_0, ti_9] at hr2
    rw [ok_cd]
    refine ⟨fun e => ok_ret.mpr (q2 e1 (hr2.z.mp e)), fun e => ?_⟩
    have e2 := Classical.not_not.mp (fun z => e (hr2.z.mpr z))
    simp only [ok_gd, ok_bd, true_and, hm]
    rw [ok_cd]
    refine ⟨fun e => ok_ret.mpr (q3 e1 e2 (by rw [e]; rfl)), fun e => ?_⟩
    rw [ti_eq, ti_4] at e
    obtain ⟨c, hc⟩ : ∃ c : Nat, (gI u2 133 0).toInt = (c : Int) := ⟨(gI u2 133 0).toInt.toNat, by omega⟩
    have hc4 : c < 4 := by omega
    have n1 := nat_of hc
    have g1 := ix_of (m := 4) hc hc4
    rw [n1] at g1
    have k1 : ∀ y : Int32, gI (sI u2 135 c y) 133 0 = gI u2 133 0 := fun y => gI_ne (by decide)
    have k2 : ∀ y y' : Int32, gI (sI (sI u2 135 c y) 136 c y') 133 0 = gI u2 133 0 := fun y y' => by rw [gI_ne (by decide), gI_ne (by decide)]
    have s1 : ∀ (u : gW) (a k : Nat) (y : Int32) (b : Nat), sh (sI u a k y) b = sh u b := fun _ _ _ _ _ => rfl
    have r1 : ∀ (u : gW) (a k : Nat) (y : Int32) (b j : Nat), gR (sI u a k y) b j = gR u b j := fun _ _ _ _ _ _ => rfl
    simp only [ok_gd, ok_bd, ok_rr1, true_and, hm, hy, n1, g1, k1, k2, s1, r1, not_false_eq_true]
    exact q4 e1 e2 c hc4 hc
  have hcr' : 0 ≤ (gI w 133 0).toInt ∧ (gI w 133 0).toInt ≤ 4 := hcr
  unfold f_X_payer f_X_payer_b0
  rw [ok_cd]
  refine ⟨fun e => ?_, fun e => ?_⟩ <;> rw [ti_lt, ti_0] at e
  · exact ok_ret.mpr (mod _ w h.1 (fun _ => ⟨rfl, h⟩) (fun z => by omega) (fun z => by omega) (fun z => by omega) hcr)
  rw [ok_cd]
  refine ⟨fun e7 => ?_, fun e7 => ?_⟩ <;> rw [ti_lt, ti_7] at e7
  · rw [ok_cd]
    refine ⟨fun d => ?_, fun d => ?_⟩ <;> rw [ti_lt, ti_0] at d
    · exact ok_ret.mpr (mod _ w h.1 (fun z => by omega) (fun _ _ => ⟨rfl, h⟩) (fun _ z => by omega) (fun _ z => by omega) hcr)
    rw [ok_cd]
    refine ⟨fun d9 => ?_, fun d9 => ?_⟩ <;> rw [ti_le, ti_9] at d9
    · simp only [ok_gd, ok_rr, true_and, hx]
      refine ⟨_, rfl, ?_⟩
      simp only [ok_gd, ok_bd, true_and, hx]
      rw [hac, ok_cd]
      refine ⟨fun e4 => ?_, fun e4 => ?_⟩ <;> rw [ti_lt, hc, ti_4] at e4
      · have hc4 : c < 4 := by omega
        have n1 := nat_of hc
        have g1 := ix_of (m := 4) hc hc4
        rw [n1] at g1
        simp only [ok_bd, ok_rr, hx]
        refine ⟨_, rfl, ?_⟩
        refine ok_call (c_newPayer ⟨by omega, e7⟩) ?_
        rintro - v ⟨rfl, hv⟩
        have hSv := h.ag hv.1
        have hxv := lay_X hSv.1
        have hcv : gI v 133 0 = gI w 133 0 := (hv.1.2 133 (by have := h.1.2.2; omega)).2.1 0
        have hc9 : gI v 9 1 = gI w 133 0 := by rw [(hv.1.2 9 (by have := h.1.2.2; omega)).2.1 1]; exact hac
        have n10 : ∀ (q : Nat), ∀ t ∈ refT, ¬ (t.1 = 10 ∧ t.2.1 = q) := fun q t ht z => ref10 t ht z.1
        have F1 : Fr [10] [] v (sR v 10 c (some (nx w))) := Fr_sR Fr.rf (by simp) (n10 c)
        have hx2 := lay_X (F1.lay hSv.1)
        have h91 : gI (sR v 10 c (some (nx w))) 9 1 = gI w 133 0 := by rw [F1.i (by decide)]; exact hc9
        simp only [ok_rr, ok_gd, ok_bd, true_and, hxv, n1, g1, not_false_eq_true]
        refine ⟨_, rfl, ?_⟩
        simp only [ok_gd, ok_bd, ok_rr, true_and, hxv, hx2, hv.2.2.1, n1, g1, not_false_eq_true]
        refine ⟨_, rfl, ?_⟩
        simp only [ok_gd, ok_bd, true_and, hx2, h91]
        refine ok_ret.mpr ?_
        have hp1 : (gI w 133 0 + 1).toInt = ((c + 1 : Nat) : Int) := ti_p1 hc (by omega)
        have F2 : Fr [10] [(9, 1)] v (sI (sR v 10 c (some (nx w))) 9 1 (gI w 133 0 + 1)) := Fr_sI (F1.up (by simp) (by simp)) (by simp)
        generalize eu : sI (sR v 10 c (some (nx w))) 9 1 (gI w 133 0 + 1) = u at F2
        have u91 : (gI u 9 1).toInt = ((c + 1 : Nat) : Int) := by rw [← eu, gI_eq]; exact hp1
        have u10 : ∀ p, gR u 10 p = if p = c then some (nx w) else gR v 10 p := fun p => by
          rw [← eu]
          show gR (sR v 10 c (some (nx w))) 10 p = _
          rw [gR_sR]
          by_cases e : p = c
          · rw [if_pos ⟨rfl, e⟩, if_pos e]
          · rw [if_neg (fun z => e z.2), if_neg e]
        have hLu := F2.lay hSv.1
        have hcu : gI u 133 0 = gI w 133 0 := by rw [F2.i (by decide)]; exact hcv
        refine mod _ u hLu (fun z => by omega) (fun _ z => by omega) (fun _ _ z => by rw [hcu, hc] at z; omega) (fun _ _ c' hc'4 hc' => ?_) (by rw [hcu]; exact hcr)
        obtain rfl : c' = c := by rw [hcu, hc] at hc'; omega
        have F3 : Fr [135, 136, 137] [] u (sI (sI (sI u 135 c' a1) 136 c' a2) 137 c' 0) := Fr_sI (Fr_sI (Fr_sI Fr.rf (by simp)) (by simp)) (by simp)
        have zz : ∀ k, k < 6 → gI v 139 (6 * c' + k) = 0 := fun k hk => hSv.2.1.apurz c' k (by omega) hk (by rw [hcv, hc]; omega)
        have zr : ∀ k, k < 4 → gI v 138 (4 * c' + k) = 0 := fun k hk => hSv.2.1.arowz c' k (by omega) hk (by rw [hcv, hc]; omega)
        have zp : gI v 137 (1 * c' + 0) = 0 := hSv.2.1.apadz c' 0 (by omega) (by omega) (by rw [hcv, hc]; omega)
        have zp' : gI u 137 c' = 0 := by rw [F2.i (by decide)]; rw [show 1 * c' + 0 = c' by omega] at zp; exact zp
        refine (c_Mp70 hN (F3.lay hLu) (c := c') (by rw [F3.i (by decide), hcu]; exact hc) hc4 (fun k hk => by rw [F3.i (by decide), F2.i (by decide)]; exact zz k hk) (fun k hk => by rw [F3.i (by decide), F2.i (by decide)]; exact zr k hk)).mono ?_
        rintro r z ⟨hr, F4, hz0⟩
        refine ⟨by rw [ti_eq, hr, hc], ?_⟩
        have F3' : Fr [135, 136] [] u (sI (sI (sI u 135 c' a1) 136 c' a2) 137 c' 0) := by
          have F3a : Fr [135, 136] [] u (sI (sI u 135 c' a1) 136 c' a2) := Fr_sI (Fr_sI Fr.rf (by simp)) (by simp)
          refine F3a.tr ⟨rfl, fun a q _ _ => ?_, fun _ _ _ => rfl, fun _ _ _ _ => rfl, fun _ => rfl, fun _ _ => rfl⟩
          show gI (sI _ 137 c' 0) a q = _
          rw [gI_sI]
          by_cases e : a = 137 ∧ q = c'
          · rw [if_pos e, e.1, e.2, F3a.i (by decide)]; exact zp'.symm
          · rw [if_neg e]
        have G : Fr [10, 135, 136] [(9, 1), (133, 0)] v z := ((F2.up (by simp) (by simp)).tr (F3'.up (by simp) (by simp))).tr (F4.up (by simp) (by simp))
        refine payer_fin h hv hc hc4 hc ⟨by omega, e7⟩ ⟨by omega, d9⟩ G (fun p => ?_) ?_ hz0 (fun p => ?_) (fun p => ?_)
        · rw [F4.r (by decide), F3.r (by decide)]; exact u10 p
        · rw [F4.i (by decide), F3.i (by decide)]; exact u91
        · rw [F4.i (by decide)]
          show gI (sI (sI (sI u 135 c' a1) 136 c' a2) 137 c' 0) 135 p = _
          rw [gI_ne (by decide), gI_ne (by decide), gI_sI]
          by_cases e : p = c'
          · rw [if_pos ⟨rfl, e⟩, if_pos e]
          · rw [if_neg (fun z => e z.2), if_neg e, F2.i (by decide)]
        · rw [F4.i (by decide)]
          show gI (sI (sI (sI u 135 c' a1) 136 c' a2) 137 c' 0) 136 p = _
          rw [gI_ne (by decide), gI_sI]
          by_cases e : p = c'
          · rw [if_pos ⟨rfl, e⟩, if_pos e]
          · rw [if_neg (fun z => e z.2), if_neg e, gI_ne (by decide), F2.i (by decide)]
      · exact ok_ret.mpr (mod _ w h.1 (fun z => by omega) (fun _ z => by omega) (fun _ _ _ => ⟨rfl, h⟩) (fun _ _ c' z hc' => by omega) hcr)
    · exact ok_ret.mpr (mod _ w h.1 (fun z => by omega) (fun _ _ => ⟨rfl, h⟩) (fun _ z => by omega) (fun _ z => by omega) hcr)
  · exact ok_ret.mpr (mod _ w h.1 (fun _ => ⟨rfl, h⟩) (fun z => by omega) (fun z => by omega) (fun z => by omega) hcr)
end PAYER
