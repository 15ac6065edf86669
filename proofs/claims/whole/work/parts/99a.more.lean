/-! ===== more: one coin more in the till =====  -/
section MORE
variable {N c tp b p s W : Nat} {w u z : gW} {kd v ob : Nat → Nat} {ro : Nat → Nat → Int} {L : List Cl} {A : PS} {a1 a2 a3 x : Int32}
/-- one coin of sort s more in the till -/
def tS (A : PS) (s : Nat) : PS := (A.1, fun q => if q = s then min (A.2.1 s + 1) 99 else A.2.1 q, A.2.2)
theorem tS_rg (h : rgS A) (hs : s < 6) : rgS (tS A s) := ⟨h.1, fun q hq => by
  have h1 := h.2.1 q hq
  have h2 := h.2.1 s hs
  show 0 ≤ (if q = s then min (A.2.1 s + 1) 99 else A.2.1 q) ∧ (if q = s then min (A.2.1 s + 1) 99 else A.2.1 q) ≤ 99
  split <;> omega, h.2.2⟩
noncomputable def moR (L : List Cl) (kd v : Nat → Nat) (ro : Nat → Nat → Int) (A : PS) (p : Nat) (n : Int) (s : Nat) : Int32 := match cS L kd v ro A p n with
  | none => 0
  | some y => match cS L kd v ro (tS A s) p n with
    | none => 0
    | some y' => J (wgt L ((nS (tS A s) p n y').1 p)) - J (wgt L ((nS A p n y).1 p))
theorem moR_0 {n : Int} (h : cS L kd v ro A p n = none) : moR L kd v ro A p n s = 0 := by unfold moR; rw [h]
theorem moR_1 {n : Int} {y : List Nat} (h : cS L kd v ro A p n = some y) (h' : cS L kd v ro (tS A s) p n = none) : moR L kd v ro A p n s = 0 := by unfold moR; rw [h]; simp only []; rw [h']
theorem moR_2 {n : Int} {y y' : List Nat} (h : cS L kd v ro A p n = some y) (h' : cS L kd v ro (tS A s) p n = some y') : moR L kd v ro A p n s = J (wgt L ((nS (tS A s) p n y').1 p)) - J (wgt L ((nS A p n y).1 p)) := by unfold moR; rw [h]; simp only []; rw [h']
theorem J_oft {r : Int32} {z : Int} (h : r.toInt = z) : r = J z := by rw [← h]; exact (Int32.ofInt_toInt r).symm
theorem CA.till (h : CA w W c tp kd v ob ro L A) (hs : s < 6) (hx : x.toInt = min (A.2.1 s + 1) 99) : CA (sI w (W + 13) s x) W c tp kd v ob ro L (tS A s) := by
  obtain ⟨h1, hW, hT, h4, h5, h6, h7, h8, h9, h10, h11, h12⟩ := h
  have f : Fr [W + 13] [] w (sI w (W + 13) s x) := Fr_sI Fr.rf (by simp)
  have o : ∀ a, a ≠ W + 13 → oP [W + 13] [] a := fun a ha => ⟨by simp; exact ha, by simp⟩
  refine ⟨f.lay h1, hW, hT, h4, ?_, h6.fr f (fun d hd => o _ ?_), h7.fr f (fun a ha => o _ ?_), fun q t hq ht => ?_, fun t ht => ?_, fun q hq => ?_, tS_rg h11 hs, fun q k hq hk => ?_⟩
  · rw [f.r (o _ (by omega))]; exact h5
  · rcases hT with rfl | ⟨i, hi, rfl⟩ <;> rcases hW with rfl | rfl <;> omega
  · rcases hW with rfl | rfl <;> omega
  · rw [f.i (o _ (by omega))]; exact h8 q t hq ht
  · show _ = (if t = s then min (A.2.1 s + 1) 99 else A.2.1 t)
    rw [gI_sI]
    by_cases e : t = s
    · rw [if_pos ⟨rfl, e⟩, if_pos e]; exact hx
    · rw [if_neg (fun z => e z.2), if_neg e]; exact h9 t ht
  · rw [f.i (o _ (by omega))]; exact h10 q hq
  · rw [f.i (o _ (by omega))]; exact h12 q k hq hk
theorem MA.till (h : MA w c b kd v ro L A) (hs : s < 6) (hx : x.toInt = min (A.2.1 s + 1) 99) : MA (sI w 140 s x) c b kd v ro L (tS A s) := by
  obtain ⟨h1, h2, h3, h4, h5, h8, h9, h10, h11, h12⟩ := h
  have f : Fr [140] [] w (sI w 140 s x) := Fr_sI Fr.rf (by simp)
  have n : ∀ a, a ≠ 140 → oP [140] [] a := fun a ha => ⟨by simp; exact ha, by simp⟩
  refine ⟨f.lay h1, h2.fr f (fun d h h' => n d (by omega)) (by decide), h3.c f (n _ (by omega)), h4, fun p hp => ?_, fun p t hp ht => ?_, fun t ht => ?_, fun p hp => ?_, tS_rg h11 hs, fun p k hp hk => ?_⟩
  · rw [f.i (n _ (by omega)), f.i (n _ (by omega))]; exact h5 p hp
  · rw [f.i (n _ (by omega))]; exact h8 p t hp ht
  · show _ = (if t = s then min (A.2.1 s + 1) 99 else A.2.1 t)
    rw [gI_sI]
    by_cases e : t = s
    · rw [if_pos ⟨rfl, e⟩, if_pos e]; exact hx
    · rw [if_neg (fun z => e z.2), if_neg e]; exact h9 t ht
  · rw [f.i (n _ (by omega))]; exact h10 p hp
  · rw [f.i (n _ (by omega))]; exact h12 p k hp hk
set_option maxRecDepth 20000 in
theorem lay_MO (h : Lay w) : gR w 133 7 = some 140 ∧ sh w 140 = (50, 6) ∧ gR w 47 5 = some 60 ∧ sh w 60 = (50, 6) := ⟨h.2.1 (133, 7, 140) (by decide), h.1 140 (by decide), h.2.1 (47, 5, 60) (by decide), h.1 60 (by decide)⟩
theorem c_Mmore78 (hN : 1000 ≤ N) {r4 r5 z0 : Int32} {n : Int} {y : List Nat} (h : MA w c b kd v ro L A) (hp : p < c) (h1 : a1.toInt = (p : Int)) (h2 : a2.toInt = n) (hpr : 0 ≤ n ∧ n ≤ 500) (h3 : a3.toInt = (s : Int)) (hs : s < 6) (hz : z0.toInt = min (A.2.1 s + 1) 99) (h5 : gI w 140 s = r5) (h4 : r4.toInt = wgt L ((nS A p n y).1 p)) (hy : cS L kd v ro A p n = some y) :
    ok (f_M_more_b78 N 133 a1 a2 a3 r4 r5 z0 a3 140 w) (fun r u => RM w u ∧ r = moR L kd v ro A p n s) := by
  have hm := lay_M h.1
  have ho := lay_MO h.1
  have n1 := nat_of h3
  have g1 := ix_of (m := 6) h3 hs
  rw [n1] at g1
  have ht := h.till (x := z0) hs hz
  have hmt := lay_M ht.1
  have f0 : Fr [140] [] w (sI w 140 s z0) := Fr_sI Fr.rf (by simp)
  unfold f_M_more_b78
  simp only [ok_gd, ok_bd, true_and, ho, hmt, n1, g1, not_false_eq_true]
  refine ok_call (ht.could hN hp h1 h2 hpr) ?_
  rintro r u ⟨f, hr⟩
  have hLu := f.1.lay ht.1
  have hmu := lay_M hLu
  have hou := lay_MO hLu
  simp only [ok_gd, ok_bd, ok_rr, true_and, hou, hmu, n1, g1, not_false_eq_true]
  refine ⟨_, rfl, ?_⟩
  simp only [ok_gd, ok_bd, true_and, hou, hmu, n1, g1, not_false_eq_true]
  have fin : RM w (sI u 140 s r5) := by
    refine ⟨((f0.up (by simp) (by simp)).tr f.1).tr (Fr_sI Fr.rf (by simp)), fun k => ?_, fun k => ?_, fun k => ?_⟩
    · rw [gI_ne (by decide), f.2.1, gI_ne (by decide)]
    · rw [gI_sI]
      by_cases e : k = s
      · rw [if_pos ⟨rfl, e⟩, e, h5]
      · rw [if_neg (fun z => e z.2), f.2.2.1, gI_sI, if_neg (fun z => e z.2)]
    · rw [gI_ne (by decide), f.2.2.2, gI_ne (by decide)]
  rcases hr with ⟨hr, hcn⟩ | ⟨hr, y', hcn, -, h38, -⟩
  · exact ok_cdt (by rw [ti_eq, hr, ti_0]) (ok_ret.mpr ⟨fin, (moR_1 hy hcn).symm⟩)
  · refine ok_cdf (by rw [ti_eq, hr, ti_0]; decide) (ok_ret.mpr ⟨fin, ?_⟩)
    rw [moR_2 hy hcn, J_oft h38, J_oft h4]
theorem c_Mmore (hN : 1000 ≤ N) {n : Int} (h : CX w c tp b kd v ob ro L A) (hp : p < c) (h1 : a1.toInt = (p : Int)) (h2 : a2.toInt = n) (hpr : 1 ≤ n ∧ n ≤ 199) (h3 : a3.toInt = (s : Int)) (hs : s < 6) :
    ok (f_M_more N 133 a1 a2 a3 w) (fun r u => RF w u ∧ r = moR L kd v ro A p n s) := by
  have hma := h.2.2.1
  have hm := lay_M hma.1
  have n1 := nat_of h3
  have g1 := ix_of (m := 6) h3 hs
  rw [n1] at g1
  unfold f_M_more f_M_more_b0
  simp only [ok_gd, true_and, hm]
  refine ok_call h.mp ?_
  rintro r1 u1 ⟨rfl, hr1⟩
  refine ok_cdf (fun e => by have := hr1.z.mp e; omega) ?_
  simp only [ok_gd, true_and, hm]
  refine ok_call (c_Msort hma.1) ?_
  rintro r2 u2 ⟨rfl, hr2⟩
  refine ok_cdf (fun e => by have := hr2.z.mp e; omega) ?_
  simp only [ok_gd, true_and, hm]
  refine ok_call (c_Mprice hma.1) ?_
  rintro r3 u3 ⟨rfl, hr3⟩
  refine ok_cdf (fun e => by have := hr3.z.mp e; omega) ?_
  simp only [ok_gd, true_and, hm]
  refine ok_call (hma.could hN hp h1 h2 (by omega)) ?_
  rintro r4 u4 ⟨f4, hr4⟩
  rcases hr4 with ⟨hr4, hcn⟩ | ⟨hr4, y, hcn, -, h38, -⟩
  · exact ok_cdt (by rw [ti_eq, hr4, ti_0]) (ok_ret.mpr ⟨f4.rF, (moR_0 hcn).symm⟩)
  refine ok_cdf (by rw [ti_eq, hr4, ti_0]; decide) ?_
  have hma4 := hma.rm f4
  have hm4 := lay_M hma4.1
  have ho4 := lay_MO hma4.1
  have ht := hma4.2.2.2.2.2.2.1 s hs
  have hb := hma4.2.2.2.2.2.2.2.2.1.2.1 s hs
  simp only [ok_gd, ok_bd, ok_rr, true_and, ho4, hm4, n1, g1, not_false_eq_true]
  refine ⟨_, rfl, ?_⟩
  simp only [ok_gd, ok_bd, true_and, ho4, hm4, n1, g1, not_false_eq_true]
  have fin : ∀ z0 : Int32, z0.toInt = min (A.2.1 s + 1) 99 → ok (f_M_more_b78 N 133 a1 a2 a3 (gI u4 133 38) (gI u4 140 s) z0 a3 140 u4) (fun r u => RF u3 u ∧ r = moR L kd v ro A p n s) := fun z0 hz => by
    refine (c_Mmore78 hN hma4 hp h1 h2 (by omega) h3 hs hz rfl h38 hcn).mono ?_
    rintro r5 u5 ⟨f5, hr5⟩
    exact ⟨(f4.tr f5).rF, hr5⟩
  rw [ok_cd]
  refine ⟨fun e => ?_, fun e => ?_⟩ <;> rw [ti_le, ti_99, ht] at e
  · exact fin 99 (by rw [ti_99]; omega)
  · rw [ok_bd]
    exact fin _ (by rw [ti_add1 (by omega), ht]; omega)
set_option maxHeartbeats 1000000 in
theorem p_more (hN : 1000 ≤ N) (h : Sim w) : ok (f_X_more N 0 a1 a2 a3 w) (fun r w1 => ok (f_M_more N 133 a1 a2 a3 w1) (fun r' w2 => r = r' ∧ Sim w2)) := by
  obtain ⟨c, tp, b, kd, v, ob, ro, L, A, hx0⟩ := h.cx
  have hx := lay_X h.1
  have hm := lay_M h.1
  unfold f_X_more f_X_more_b0
  simp only [ok_gd, true_and, hx]
  refine ok_call hx0.xp ?_
  rintro r u ⟨rfl, hr⟩
  rcases hr with ⟨p, hp, ha, rfl⟩ | ⟨hr, rfl⟩
  · rw [ok_nr1]
    refine ok_call c_Xsort ?_
    rintro r2 u2 ⟨rfl, hr2⟩
    rw [ok_cd]
    refine ⟨fun d => ?_, fun d => ?_⟩
    · refine ok_ret.mpr ?_
      unfold f_M_more f_M_more_b0
      simp only [ok_gd, true_and, hm]
      refine ok_call hx0.mp ?_
      rintro r3 u3 ⟨rfl, hr3⟩
      refine ok_cdf (fun e => by have := hr3.z.mp e; omega) ?_
      simp only [ok_gd, true_and, hm]
      refine ok_call (c_Msort h.1) ?_
      rintro r4 u4 ⟨rfl, hr4⟩
      exact ok_cdt (hr4.z.mpr (hr2.z.mp d)) (ok_ret.mpr ⟨rfl, h⟩)
    have d' := Classical.not_not.mp (fun z => d (hr2.z.mpr z))
    refine ok_call c_Xprice ?_
    rintro r3 u3 ⟨rfl, hr3⟩
    rw [ok_cd]
    refine ⟨fun e => ?_, fun e => ?_⟩
    · refine ok_ret.mpr ?_
      unfold f_M_more f_M_more_b0
      simp only [ok_gd, true_and, hm]
      refine ok_call hx0.mp ?_
      rintro r5 u5 ⟨rfl, hr5⟩
      refine ok_cdf (fun e => by have := hr5.z.mp e; omega) ?_
      simp only [ok_gd, true_and, hm]
      refine ok_call (c_Msort h.1) ?_
      rintro r4 u4 ⟨rfl, hr4⟩
      refine ok_cdf (fun e => hr4.z.mp e d') ?_
      simp only [ok_gd, true_and, hm]
      refine ok_call (c_Mprice h.1) ?_
      rintro r6 u6 ⟨rfl, hr6⟩
      exact ok_cdt (hr6.z.mpr (hr3.z.mp e)) (ok_ret.mpr ⟨rfl, h⟩)
    have e' := Classical.not_not.mp (fun z => e (hr3.z.mpr z))
    obtain ⟨s, hs⟩ : ∃ s : Nat, a3.toInt = (s : Int) := ⟨a3.toInt.toNat, by omega⟩
    have hs6 : s < 6 := by omega
    have n1 := nat_of hs
    have g1 := ix_of (m := 6) hs hs6
    rw [n1] at g1
    have go : ∀ (r : Int32) (u : gW), RF u3 u → r = moR L kd v ro A p a2.toInt s → ok (some (r, u)) (fun r w1 => ok (f_M_more N 133 a1 a2 a3 w1) (fun r' w2 => r = r' ∧ Sim w2)) := by
      intro r u f hr
      have hu := hx0.rf f
      refine ok_ret.mpr ((c_Mmore hN hu hp ha rfl e' hs hs6).mono ?_)
      rintro r5 u5 ⟨f5, hr5⟩
      exact ⟨by rw [hr, hr5], hu.1.rf f5⟩
    simp only [ok_gd, ok_rr, true_and, hx]
    refine ⟨_, rfl, _, rfl, ?_⟩
    simp only [ok_gd, true_and, hx]
    refine ok_call (hx0.2.1.choose hN hp rfl (by omega)) ?_
    rintro r4 u4 ⟨f4, hca4, hr4⟩
    have fr4 : RF u3 u4 := (scRM f4).rF
    have hx4 := lay_X hca4.1
    rcases hr4 with ⟨hr4, hcn⟩ | ⟨hr4, y, hcn, hh⟩
    · exact ok_cdt (by rw [ti_eq, hr4, ti_0]) (go _ _ fr4 (moR_0 hcn).symm)
    refine ok_cdf (by rw [ti_eq, hr4, ti_0]; decide) ?_
    simp only [ok_gd, ok_rr, true_and, hx4]
    refine ⟨_, rfl, ?_⟩
    simp only [ok_gd, true_and, hx4]
    refine ok_call (hca4.behindW hN hp (by omega) hcn hh) ?_
    rintro r5 u5 ⟨rfl, hr5⟩
    simp only [ok_gd, ok_rr, true_and, hx4]
    refine ⟨_, rfl, _, rfl, ?_⟩
    simp only [ok_gd, true_and, hx4]
    refine ok_call (CX.tri hN (hx0.rf fr4)) ?_
    rintro r6 u6 ⟨f6, hca6, -⟩
    have hx6 := lay_X hca6.1
    have ho6 := lay_MO hca6.1
    simp only [ok_gd, ok_rr, true_and, hx6]
    refine ⟨_, rfl, ?_⟩
    simp only [ok_gd, ok_rr, true_and, hx6, ho6]
    refine ⟨_, rfl, ?_⟩
    have ht := hca6.2.2.2.2.2.2.2.2.1 s hs6
    have hb := hca6.2.2.2.2.2.2.2.2.2.2.1.2.1 s hs6
    have e60 : (47 : Nat) + 13 = 60 := rfl
    rw [e60] at ht
    simp only [ok_gd, ok_bd, true_and, ho6, n1, g1, not_false_eq_true]
    have hx48 : (if gI u6 60 s + 1 < (99 : Int32) then gI u6 60 s + 1 else (99 : Int32)).toInt = min (A.2.1 s + 1) 99 := by
      rw [ti_min, ti_99, ti_add1 (by omega), ht]
    generalize (if gI u6 60 s + 1 < (99 : Int32) then gI u6 60 s + 1 else (99 : Int32)) = x48 at hx48
    have hca7 := hca6.till hs6 hx48
    rw [e60] at hca7
    have fr7 : RF u3 (sI u6 60 s x48) := (fr4.tr f6).tr ⟨Fr_sI Fr.rf (by simp), fun k => gI_ne (by decide), fun k => gI_ne (by decide), fun k => gI_ne (by decide)⟩
    have hx7 := lay_X hca7.1
    simp only [ok_gd, ok_rr, true_and, hx7]
    refine ⟨_, rfl, _, rfl, ?_⟩
    simp only [ok_gd, true_and, hx7]
    refine ok_call (hca7.choose hN hp rfl (by omega)) ?_
    rintro r8 u8 ⟨f8, hca8, hr8⟩
    have fr8 : RF u3 u8 := fr7.tr (scRM f8).rF
    have hx8 := lay_X hca8.1
    rcases hr8 with ⟨hr8, hcn8⟩ | ⟨hr8, y8, hcn8, hh8⟩
    · exact ok_cdt (by rw [ti_eq, hr8, ti_0]) (go _ _ fr8 (moR_1 hcn hcn8).symm)
    refine ok_cdf (by rw [ti_eq, hr8, ti_0]; decide) ?_
    simp only [ok_gd, ok_rr, true_and, hx8]
    refine ⟨_, rfl, ?_⟩
    simp only [ok_gd, true_and, hx8]
    refine ok_call (hca8.behindW hN hp (by omega) hcn8 hh8) ?_
    rintro r9 u9 ⟨rfl, hr9⟩
    simp only [ok_bd]
    exact go _ _ fr8 (by rw [moR_2 hcn hcn8, J_oft hr5, J_oft hr9])
  · rw [ok_nr0]
    refine ok_ret.mpr ?_
    unfold f_M_more f_M_more_b0
    simp only [ok_gd, true_and, hm]
    refine ok_call hx0.mp ?_
    rintro r3 u3 ⟨rfl, hr3⟩
    exact ok_cdt (hr3.z.mpr hr) (ok_ret.mpr ⟨rfl, h⟩)
end MORE
