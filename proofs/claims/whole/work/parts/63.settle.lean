/-! ===== a payment in the class: it is made =====  -/
section SETTLE
variable {N W o p kd v pd tp : Nat} {w : gW} {pu ti ro : Nat → Int} {L : List Cl} {y : List Nat} {b : Nat → Int}
/-- a purse, THE TILL behind a payment -/
def puF (pu : Nat → Int) (y : List Nat) (b : Nat → Int) (s : Nat) : Int := pu s - gx y s + b s
def tiF (ti : Nat → Int) (y : List Nat) (b : Nat → Int) (s : Nat) : Int := ti s + gx y s - b s
def pdF (pd : Nat) : Nat := if pd + 1 < 9999 then pd + 1 else 9999
theorem ti_9999 : (9999 : Int32).toInt = 9999 := rfl
theorem pdF_i (h : pd ≤ 9999) : ((pdF pd : Nat) : Int) = min ((pd : Int) + 1) 9999 := by
  unfold pdF
  by_cases c : pd + 1 < 9999
  · rw [if_pos c]; omega
  · rw [if_neg c]; omega
theorem pdF_in : pdF pd ≤ 9999 := by
  unfold pdF
  by_cases c : pd + 1 < 9999
  · rw [if_pos c]; omega
  · rw [if_neg c]; exact Nat.le_refl _
theorem pd_step {x z : Int32} (h : z.toInt = (pd : Int)) (e : x = z) (g : pd ≤ 9999) : (if x + 1 < (9999 : Int32) then x + 1 else (9999 : Int32)).toInt = ((pdF pd : Nat) : Int) := by
  have h1 : (x + 1).toInt = (pd : Int) + 1 := by rw [e, ti_add1 (by omega), h]
  rw [ti_min, h1, ti_9999, pdF_i g]
set_option maxHeartbeats 1000000 in
theorem c_settle (hN : 1000 ≤ N) (hpd : pd ≤ 9999) (hc : CP w W o p kd v pd tp pu ti ro L) (hpr : PR w W o) (hs : HS w y) (hy : h2 y) (hb : ∀ s, s < 6 → (gI w 69 s).toInt = b s ∧ 0 ≤ b s ∧ b s ≤ 999) :
    ok (f_Pm_settle N 66 w) (fun _ u => Fr [W + 3 + p, W + 13] [(W + 12, p)] w u ∧ (∀ s, s < 6 → (gI u (W + 3 + p) s).toInt = puF pu y b s ∧ (gI u (W + 13) s).toInt = tiF ti y b s) ∧ (gI u (W + 12) p).toInt = ((pdF pd : Nat) : Int)) := by
  obtain ⟨hL, hW, hT, hp, -, -, ⟨o1, o2, o3, -, o5, -, -⟩, q1, q2, q3, -⟩ := hc
  have nA : W + 3 + p ≠ W + 13 := by omega
  have n8 : 68 ≠ W + 13 := by rcases hW with rfl | rfl <;> omega
  have n9 : 69 ≠ W + 13 := by rcases hW with rfl | rfl <;> omega
  have m8 : 68 ≠ W + 3 + p := by rcases hW with rfl | rfl <;> omega
  have m9 : 69 ≠ W + 3 + p := by rcases hW with rfl | rfl <;> omega
  have k3 : W + 12 ≠ W + 3 + p := by omega
  have k13 : W + 12 ≠ W + 13 := by omega
  have i8 : oP [W + 3 + p, W + 13] [(W + 12, p)] 68 := ⟨by simp only [List.mem_cons, List.not_mem_nil, or_false]; omega, by simp only [List.mem_cons, List.not_mem_nil, or_false]; rintro c rfl; rcases hW with rfl | rfl <;> simp⟩
  have i9 : oP [W + 3 + p, W + 13] [(W + 12, p)] 69 := ⟨by simp only [List.mem_cons, List.not_mem_nil, or_false]; omega, by simp only [List.mem_cons, List.not_mem_nil, or_false]; rintro c rfl; rcases hW with rfl | rfl <;> simp⟩
  have i6 : ∀ j, oC [W + 3 + p, W + 13] [(W + 12, p)] 66 j := fun j => ⟨by simp only [List.mem_cons, List.not_mem_nil, or_false]; rcases hW with rfl | rfl <;> omega, by simp only [List.mem_cons, List.not_mem_nil, or_false, Prod.mk.injEq]; rcases hW with rfl | rfl <;> omega⟩
  have o3' : (sh w o).1 < 7 := by omega
  have n1 := nat_of o5
  have g1 := ix_of (m := 4) o5 hp
  rw [n1] at g1
  obtain ⟨p0, -⟩ := lay_P hL
  unfold f_Pm_settle f_Pm_settle_b0
  simp only [ok_gd, ok_bd, ok_rr1, ok_nr0, ok_nr1, ok_ret, true_and, and_true, not_false_eq_true, sh_sI, sh_sR, sh_sL, gR_sI, gR_sL, gI_sR, gI_sL, sh_cI, gR_cI, p0, hpr.2, o3']
  unfold f_Pm_settle_l10
  refine itr_up (fun k q => q.1 = 66 ∧ q.2.1 = gI w o 1 ∧ q.2.2.1.toInt = (k : Int) ∧ Fr [W + 3 + p, W + 13] [(W + 12, p)] w q.2.2.2 ∧ (gI q.2.2.2 (W + 12) p = gI w (W + 12) p) ∧ ∀ s, s < 6 → (gI q.2.2.2 (W + 3 + p) s).toInt = (if s < k then puF pu y b s else pu s) ∧ (gI q.2.2.2 (W + 13) s).toInt = (if s < k then tiF ti y b s else ti s)) 6 ?_ ?_ N 0 _ (by omega) ?_ (by omega)
  · rintro rec k ⟨b0, b1, a2, u⟩ hk ⟨e0, e1, e2, f, e3, e4⟩ IH
    simp only at e0 e1 e2 f e3 e4
    subst e0 e1
    have hLu := f.lay hL
    obtain ⟨p0, -, p1, p2, -, -, -, s68, s69, -⟩ := lay_P hLu
    obtain ⟨w0, -, w2, -, -, w5, -, -, -, -, -, -, z2, -, -, z13, -⟩ := lay_W hLu hW
    obtain ⟨y1, y2, -⟩ := lay_Wp hLu hW hp
    have r5 : gR u 66 5 = some W := by rw [f.rc (i6 5)]; exact hpr.1
    have n2 := nat_of e2
    have g2 := ix_of (m := 6) e2 hk
    rw [n2] at g2
    have k9 : k < 2147483647 := by omega
    have v8 : (gI u 68 k).toInt = gx y k := by rw [f.i i8]; exact hs.2.1 k hk
    have v9 : (gI u 69 k).toInt = b k := by rw [f.i i9]; exact (hb k hk).1
    have hbk := (hb k hk).2
    have gk := hy.g k
    have e4k := e4 k hk
    rw [if_neg (by omega), if_neg (by omega)] at e4k
    have qk1 := (q1 k hk).2
    have qk2 := (q2 k hk).2
    refine ok_cdf (by rw [ti_le, e2, ti_6]; omega) ?_
    simp only [ok_gd, ok_bd, ok_rr1, ok_nr0, ok_nr1, ok_ret, true_and, and_true, not_false_eq_true, sh_sI, sh_sR, sh_sL, gR_sI, gR_sL, gI_sR, gI_sL, sh_cI, gR_cI, p0, p1, p2, s68, s69, r5, w0, w2, w5, z2, z13, y1, y2, n1, g1, n2, g2, gI_ne nA, gI_ne n8, gI_ne n9]
    refine IH _ ?_
    have d1 : (gI u 68 k - gI u 69 k).toInt = gx y k - b k := by rw [ti_sub] <;> rw [v8, v9] <;> omega
    have d1' : (gI u (W + 13) k + (gI u 68 k - gI u 69 k)).toInt = tiF ti y b k := by unfold tiF; rw [ti_add] <;> rw [d1, e4k.2] <;> omega
    clear d1
    have d2 : (gI u 69 k - gI u 68 k).toInt = b k - gx y k := by rw [ti_sub] <;> rw [v8, v9] <;> omega
    have d2' : (gI u (W + 3 + p) k + (gI u 69 k - gI u 68 k)).toInt = puF pu y b k := by unfold puF; rw [ti_add] <;> rw [d2, e4k.1] <;> omega
    clear d2
    refine ⟨rfl, rfl, ti_p1 e2 k9, Fr_sI (Fr_sI f (by simp)) (by simp), ?_, fun s hs6 => ⟨?_, ?_⟩⟩
    · simp only; rw [gI_ne k3, gI_ne k13]; exact e3
    · simp only; rw [gI_sI]
      by_cases e : s = k
      · rw [if_pos ⟨rfl, e⟩, if_pos (by omega), e]; exact d2'
      · rw [if_neg (fun q => e q.2), gI_ne nA, (e4 s hs6).1]
        by_cases c : s < k
        · rw [if_pos c, if_pos (by omega)]
        · rw [if_neg c, if_neg (by omega)]
    · simp only; rw [gI_ne nA.symm, gI_sI]
      by_cases e : s = k
      · rw [if_pos ⟨rfl, e⟩, if_pos (by omega), e]; exact d1'
      · rw [if_neg (fun q => e q.2), (e4 s hs6).2]
        by_cases c : s < k
        · rw [if_pos c, if_pos (by omega)]
        · rw [if_neg c, if_neg (by omega)]
  · rintro rec ⟨b0, b1, a2, u⟩ ⟨e0, e1, e2, f, e3, e4⟩
    simp only at e0 e1 e2 f e3 e4
    subst e0 e1
    have hLu := f.lay hL
    obtain ⟨p0, -⟩ := lay_P hLu
    obtain ⟨w0, -, -, -, w4, -, -, -, -, -, -, -, -, -, z12, -⟩ := lay_W hLu hW
    have r5 : gR u 66 5 = some W := by rw [f.rc (i6 5)]; exact hpr.1
    refine ok_cdt (by rw [ti_le, e2, ti_6]; decide) ?_
    simp only [ok_gd, ok_bd, ok_rr1, ok_nr0, ok_nr1, ok_ret, true_and, and_true, not_false_eq_true, sh_sI, sh_sR, sh_sL, gR_sI, gR_sL, gI_sR, gI_sL, sh_cI, gR_cI, p0, r5, w0, w4, z12, n1, g1]
    refine ⟨Fr_sI f (by simp), fun s hs6 => ?_, ?_⟩
    · rw [gI_ne k3.symm, gI_ne k13.symm, (e4 s hs6).1, (e4 s hs6).2, if_pos hs6, if_pos hs6]; exact ⟨rfl, rfl⟩
    · rw [gI_eq]; exact pd_step q3 e3 hpd
  · exact ⟨rfl, rfl, rfl, Fr.rf, rfl, fun s hs6 => ⟨by rw [if_neg (by omega)]; exact (q1 s hs6).1, by rw [if_neg (by omega)]; exact (q2 s hs6).1⟩⟩
end SETTLE
