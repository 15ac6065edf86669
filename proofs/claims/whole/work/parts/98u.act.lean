/-! ===== act =====  -/
section PACT
variable {N c tp b p kd : Nat} {w u z : gW} {kdf v ob : Nat → Nat} {ro : Nat → Nat → Int} {L : List Cl} {A : PS} {a1 a2 a3 : Int32} {s : Nat × (Nat → Int32)} {num vv x : Int32}
def acR (kd : Nat) (num vv x a2 : Int32) (s : Nat × (Nat → Int32)) : Int32 × (Nat × (Nat → Int32)) :=
  if a2 = 0 then cnR kd num vv x s else if a2 = 1 then hnR kd num vv x s else tlR kd num vv x s
theorem tlR_le : (tlR kd num vv x s).2.1 ≤ s.1 + 30 := by
  have p1 : (ptR kd num vv x (trs s 40)).2.1 ≤ (trs s 40).1 + 6 := ptR_le
  have p2 : (ptR kd num vv (x - num) (trs s 60)).2.1 ≤ (trs s 60).1 + 6 := ptR_le
  have p3 : (ptR kd num vv x s).2.1 ≤ s.1 + 6 := ptR_le
  have p4 : (hnR kd num vv 1 (ptR kd num vv x (trs s 40)).2).2.1 ≤ (ptR kd num vv x (trs s 40)).2.1 + 5 := hnR_le
  have t4 : (trs s 40).1 = s.1 + 1 := rfl
  have t6 : (trs s 60).1 = s.1 + 1 := rfl
  unfold tlR
  split
  · unfold ktR; simp only []; omega
  · split <;> omega
theorem acR_le : (acR kd num vv x a2 s).2.1 ≤ s.1 + 30 := by
  have p1 : (cnR kd num vv x s).2.1 ≤ s.1 + 2 := cnR_le
  have p2 : (hnR kd num vv x s).2.1 ≤ s.1 + 5 := hnR_le
  have p3 : (tlR kd num vv x s).2.1 ≤ s.1 + 30 := tlR_le
  unfold acR
  split
  · omega
  · split <;> omega
theorem J_a {a : Int32} {p : Nat} (h : a.toInt = (p : Int)) : J (p : Int) = a := by
  have := J_in a
  rw [ti_eq, toInt_J (by omega), h]
def row0 (w : gW) (a : Nat) : Nat → Int32 := fun j => if j < 20 then gI w a j else 0
abbrev AC (w : gW) (c p : Nat) (a1 a2 : Int32) : Prop := p < c ∧ a1.toInt = (p : Int) ∧ 0 ≤ a2.toInt ∧ a2.toInt ≤ 2
theorem c_Xact (h : CX w c tp b kdf v ob ro L A) (hk : p < c → (gI w 135 p).toInt = (kd : Int)) (hp : p = a1.toInt.toNat) : ok (f_X_act N 0 a1 a2 a3 w) (fun r u => Fr [75] [(74, 1)] w u ∧ ((AC w c p a1 a2 ∧ r = (acR kd a1 (gI w 136 p) a3 a2 (0, row0 w 75)).1 ∧ TRc u (acR kd a1 (gI w 136 p) a3 a2 (0, row0 w 75)).2) ∨ (¬ AC w c p a1 a2 ∧ r = 0 ∧ TRc u (0, row0 w 75)))) := by
  have hS := h.1
  have hL := hS.1
  have hx := lay_X hL
  have hy := lay_A hL
  obtain ⟨-, -, -, hc1, hc2, hc4, hob⟩ := h
  have F : Fr [75] [(74, 1)] w (sI w 74 1 0) := Fr_sI Fr.rf (by simp)
  have hL5 := F.lay hL
  have hx5 := lay_X hL5
  have hy5 := lay_A hL5
  have T0 : TRc (sI w 74 1 0) (0, row0 w 75) := ⟨by rw [gI_eq]; rfl, fun j hj => by rw [gI_ne (by decide)]; exact (if_pos hj).symm⟩
  unfold f_X_act f_X_act_b0
  simp only [ok_gd, ok_rr, ok_bd, true_and, hx, hy]
  refine ⟨_, rfl, ?_⟩
  simp only [ok_gd, ok_bd, true_and, hy, hx5]
  refine ok_call (c_Xpayer hL5 (c := c) (ob := ob) (by rw [gI_ne (by decide)]; exact hc2) hc4 (fun q hq => by rw [F.r (by decide)]; exact hob q hq)) ?_
  rintro r u ⟨rfl, hr⟩
  rcases hr with ⟨q, hq, e, rfl⟩ | ⟨hn, rfl⟩
  · obtain rfl : q = p := by omega
    have hk := hk hq
    clear hp
    have hp := e
    rw [ok_nr1]
    obtain ⟨o, ho, ho182, -, ho7, hok, -, ho1, ho2⟩ := hS.2.1.apyr q (by omega) (by omega)
    obtain rfl : ob q = o := Option.some.inj ((hob q hq).symm.trans ho)
    have hPA : PA (sI w 74 1 0) (ob q) kd a1 (gI w 136 q) := by
      refine PA.fr F ⟨?_, ?_, ?_, ho2, ho182⟩
      · have := hok; rw [hk] at this; omega
      · have := hok; rw [hk] at this; omega
      · rw [ho1]; exact J_a hp
    rw [ok_cd]
    refine ⟨fun e0 => ?_, fun e0 => ?_⟩
    · simp only [ok_gd, ok_rr, true_and, hx5, hy5]
      refine ⟨_, rfl, ok_call (c_vcounts hL5 (by simp only []; omega) hPA T0) ?_⟩
      rintro r2 u2 ⟨f2, hr2, hT2⟩
      refine ok_ret.mpr ⟨F.tr f2, Or.inl ⟨⟨hq, hp, ?_, ?_⟩, ?_, ?_⟩⟩
      · rw [e0]; decide
      · rw [e0]; decide
      · unfold acR; rw [if_pos e0]; exact hr2
      · unfold acR; rw [if_pos e0]; exact hT2
    rw [ok_cd]
    refine ⟨fun e1 => ?_, fun e1 => ?_⟩
    · simp only [ok_gd, ok_rr, true_and, hx5, hy5]
      refine ⟨_, rfl, ok_call (c_vhands hL5 (by simp only []; omega) hPA T0) ?_⟩
      rintro r2 u2 ⟨f2, hr2, hT2⟩
      refine ok_ret.mpr ⟨F.tr f2, Or.inl ⟨⟨hq, hp, ?_, ?_⟩, ?_, ?_⟩⟩
      · rw [e1]; decide
      · rw [e1]; decide
      · unfold acR; rw [if_neg e0, if_pos e1]; exact hr2
      · unfold acR; rw [if_neg e0, if_pos e1]; exact hT2
    rw [ok_cd]
    refine ⟨fun e2 => ?_, fun e2 => ?_⟩
    · simp only [ok_gd, ok_rr, true_and, hx5, hy5]
      refine ⟨_, rfl, ok_call (c_vtells hL5 (by simp only []; omega) hPA T0) ?_⟩
      rintro r2 u2 ⟨f2, hr2, hT2⟩
      refine ok_ret.mpr ⟨F.tr f2, Or.inl ⟨⟨hq, hp, ?_, ?_⟩, ?_, ?_⟩⟩
      · rw [e2]; decide
      · rw [e2]; decide
      · unfold acR; rw [if_neg e0, if_neg e1]; exact hr2
      · unfold acR; rw [if_neg e0, if_neg e1]; exact hT2
    · rw [ti_eq, ti_0] at e0
      rw [ti_eq, ti_1a] at e1
      rw [ti_eq, ti_2a] at e2
      exact ok_ret.mpr ⟨F, Or.inr ⟨fun z => by have := z.2.2.1; have := z.2.2.2; omega, rfl, T0⟩⟩
  · exact ok_ret.mpr ⟨F, Or.inr ⟨fun z => hn (by have := z.1; omega), rfl, T0⟩⟩
theorem c_Mact (hL : Lay w) (hc : (gI w 133 0).toInt = (c : Int)) (hc4 : c ≤ 4) (hk : p < c → (gI w 135 p).toInt = (kd : Int) ∧ kd < 7) (hp : p = a1.toInt.toNat) : ok (f_M_act N 133 a1 a2 a3 w) (fun r u => Fr [177] [(133, 66)] w u ∧ ((AC w c p a1 a2 ∧ r = (acR kd a1 (gI w 136 p) a3 a2 (0, row0 w 177)).1 ∧ TRm u (acR kd a1 (gI w 136 p) a3 a2 (0, row0 w 177)).2) ∨ (¬ AC w c p a1 a2 ∧ r = 0 ∧ TRm u (0, row0 w 177)))) := by
  have hy := lay_A hL
  have F : Fr [177] [(133, 66)] w (sI w 133 66 0) := Fr_sI Fr.rf (by simp)
  have hL5 := F.lay hL
  have hy5 := lay_A hL5
  have T0 : TRm (sI w 133 66 0) (0, row0 w 177) := ⟨by rw [gI_eq]; rfl, fun j hj => by rw [gI_ne (by decide)]; exact (if_pos hj).symm⟩
  unfold f_M_act f_M_act_b0
  simp only [ok_gd, ok_bd, true_and, hy, hy5]
  refine ok_call (c_Mpayer hL5 (c := c) (by rw [F.c (by decide)]; exact hc)) ?_
  rintro r u ⟨rfl, hr⟩
  rw [ok_cd]
  refine ⟨fun e => ?_, fun e => ?_⟩
  · have := hr.z.mp e
    exact ok_ret.mpr ⟨F, Or.inr ⟨fun z => this (by have := z.1; omega), rfl, T0⟩⟩
  have e' := Classical.not_not.mp (fun z => e (hr.z.mpr z))
  have hpc : p < c := by omega
  have hp : a1.toInt = (p : Int) := by omega
  have hPM : PM (sI w 133 66 0) p kd a1 (gI w 136 p) := PM.fr F ⟨hp, by omega, (hk hpc).1, (hk hpc).2, rfl⟩
  simp only [ok_gd, true_and, hy5]
  refine ok_call c_Min ?_
  rintro r2 u2 ⟨rfl, hr2⟩
  rw [ti_0, ti_2a] at hr2
  rw [ok_cd]
  refine ⟨fun d => ?_, fun d => ?_⟩
  · have := hr2.z.mp d
    exact ok_ret.mpr ⟨F, Or.inr ⟨fun z => this ⟨z.2.2.1, z.2.2.2⟩, rfl, T0⟩⟩
  have d' := Classical.not_not.mp (fun z => d (hr2.z.mpr z))
  have hAC : AC w c p a1 a2 := ⟨hpc, hp, d'.1, d'.2⟩
  rw [ok_cd]
  refine ⟨fun e0 => ?_, fun e0 => ?_⟩
  · simp only [ok_gd, true_and, hy5]
    refine ok_call (c_Mcounts hL5 (by simp only []; omega) hPM T0) ?_
    rintro r3 u3 ⟨f3, hr3, hT3⟩
    refine ok_ret.mpr ⟨F.tr f3, Or.inl ⟨hAC, ?_, ?_⟩⟩
    · unfold acR; rw [if_pos e0]; exact hr3
    · unfold acR; rw [if_pos e0]; exact hT3
  rw [ok_cd]
  refine ⟨fun e1 => ?_, fun e1 => ?_⟩
  · simp only [ok_gd, true_and, hy5]
    refine ok_call (c_Mhands hL5 (by simp only []; omega) hPM T0) ?_
    rintro r3 u3 ⟨f3, hr3, hT3⟩
    refine ok_ret.mpr ⟨F.tr f3, Or.inl ⟨hAC, ?_, ?_⟩⟩
    · unfold acR; rw [if_neg e0, if_pos e1]; exact hr3
    · unfold acR; rw [if_neg e0, if_pos e1]; exact hT3
  · simp only [ok_gd, true_and, hy5]
    refine ok_call (c_Mtells hL5 (by simp only []; omega) hPM T0) ?_
    rintro r3 u3 ⟨f3, hr3, hT3⟩
    refine ok_ret.mpr ⟨F.tr f3, Or.inl ⟨hAC, ?_, ?_⟩⟩
    · unfold acR; rw [if_neg e0, if_neg e1]; exact hr3
    · unfold acR; rw [if_neg e0, if_neg e1]; exact hT3
theorem p_act (hN : 1000 ≤ N) (h : Sim w) : ok (f_X_act N 0 a1 a2 a3 w) (fun r w1 => ok (f_M_act N 133 a1 a2 a3 w1) (fun r' w2 => r = r' ∧ Sim w2)) := by
  obtain ⟨c, tp, b, kd, v, ob, ro, L, A, hx0⟩ := h.cx
  have hc1 := hx0.2.2.2.1
  have hc4 := hx0.2.2.2.2.2.1
  have hkk : a1.toInt.toNat < c → (gI w 135 a1.toInt.toNat).toInt = (((gI w 135 a1.toInt.toNat).toInt.toNat : Nat) : Int) ∧ (gI w 135 a1.toInt.toNat).toInt.toNat < 7 := fun hq => by
    have := h.2.1.aknd a1.toInt.toNat (by omega)
    omega
  refine (c_Xact hx0 (p := a1.toInt.toNat) (fun hq => (hkk hq).1) rfl).mono ?_
  rintro r u ⟨F, hr⟩
  have eb : row0 u 177 = row0 w 75 := by
    funext j
    unfold row0
    by_cases hj : j < 20
    · rw [if_pos hj, if_pos hj, F.i (by decide)]; exact (h.2.1.bod j hj).symm
    · rw [if_neg hj, if_neg hj]
  refine (c_Mact (F.lay h.1) (c := c) (by rw [F.i (by decide)]; exact hc1.symm) hc4 (p := a1.toInt.toNat) (fun hq => by rw [F.i (by decide)]; exact hkk hq) rfl).mono ?_
  rintro r' z ⟨F', hr'⟩
  rw [eb, F.i (a := 136) (by decide)] at hr'
  have G : Fr [75, 177] [(74, 1), (133, 66)] w z := (F.up (by simp) (by simp)).tr (F'.up (by simp) (by simp))
  have tc : ∀ s, TRc u s → TRc z s := fun s q => ⟨by rw [F'.c (by decide)]; exact q.1, fun j hj => by rw [F'.i (by decide)]; exact q.2 j hj⟩
  have fin : ∀ s, s.1 ≤ 1000 → TRc u s → TRm z s → Sim z := fun s hs q q' => act_fin h G hs (tc s q) q'
  rcases hr with ⟨hA, hr, hT⟩ | ⟨hA, hr, hT⟩
  · rcases hr' with ⟨hA', hr', hT'⟩ | ⟨hA', hr', hT'⟩
    · exact ⟨by rw [hr, hr'], fin _ (by have := acR_le (kd := (gI w 135 a1.toInt.toNat).toInt.toNat) (num := a1) (vv := gI w 136 a1.toInt.toNat) (x := a3) (a2 := a2) (s := (0, row0 w 75)); simp only [] at this; omega) hT hT'⟩
    · exact absurd hA hA'
  · rcases hr' with ⟨hA', hr', hT'⟩ | ⟨hA', hr', hT'⟩
    · exact absurd hA' hA
    · exact ⟨by rw [hr, hr'], fin _ (by simp only []; omega) hT hT'⟩
end PACT
