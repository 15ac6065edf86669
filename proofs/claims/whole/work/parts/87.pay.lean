/-! ===== who, what price, what sort; pay =====  -/
def bt (r : Int32) (C : Prop) : Prop := (r.toInt = 1 ∧ C) ∨ (r.toInt = 0 ∧ ¬ C)
theorem bt.z {r : Int32} {C : Prop} (h : bt r C) : r = 0 ↔ ¬ C := by
  rw [ti_eq, ti_0]
  rcases h with ⟨h, c⟩ | ⟨h, c⟩
  · rw [h]; exact ⟨fun z => absurd z (by decide), fun z => absurd c z⟩
  · rw [h]; exact ⟨fun _ => c, fun _ => rfl⟩
theorem bt.g {r : Int32} {C : Prop} (h : bt r C) : r = 0 ∨ r = 1 := by
  rw [ti_eq, ti_eq, ti_0, ti_1]
  rcases h with ⟨h, c⟩ | ⟨h, c⟩
  · exact Or.inr h
  · exact Or.inl h
set_option maxRecDepth 20000 in
theorem lay_X {w : gW} (h : Lay w) : sh w 0 = (11, 0) ∧ sh w 9 = (9, 0) ∧ sh w 10 = (54, 4) ∧ sh w 47 = (9, 0) ∧ sh w 66 = (10, 0) ∧ gR w 0 1 = some 9 ∧ gR w 0 2 = some 28 ∧ gR w 0 3 = some 47 ∧ gR w 0 5 = some 66 ∧ gR w 9 0 = some 10 := ⟨h.1 0 (by decide), h.1 9 (by decide), h.1 10 (by decide), h.1 47 (by decide), h.1 66 (by decide), h.2.1 (0, 1, 9) (by decide), h.2.1 (0, 2, 28) (by decide), h.2.1 (0, 3, 47) (by decide), h.2.1 (0, 5, 66) (by decide), h.2.1 (9, 0, 10) (by decide)⟩
section PREDS
variable {N : Nat} {w : gW} {a a1 a2 : Int32}
theorem c_Xprice : ok (f_X_isPrice N a w) (fun r u => u = w ∧ bt r (1 ≤ a.toInt ∧ a.toInt ≤ 199)) := by
  unfold f_X_isPrice f_X_isPrice_b0
  rw [ok_cd]
  refine ⟨fun c => ?_, fun c => ?_⟩
  · rw [ti_lt, ti_1] at c
    exact ok_ret.mpr ⟨rfl, Or.inr ⟨ti_0, by omega⟩⟩
  · rw [ti_lt, ti_1] at c
    rw [ok_cd]
    refine ⟨fun d => ?_, fun d => ?_⟩
    · rw [ti_lt, ti_199] at d
      exact ok_ret.mpr ⟨rfl, Or.inr ⟨ti_0, by omega⟩⟩
    · rw [ti_lt, ti_199] at d
      exact ok_ret.mpr ⟨rfl, Or.inl ⟨ti_1, by omega⟩⟩
theorem c_Xsort : ok (f_X_isSort N a w) (fun r u => u = w ∧ bt r (0 ≤ a.toInt ∧ a.toInt < 6)) := by
  unfold f_X_isSort f_X_isSort_b0
  rw [ok_cd]
  refine ⟨fun c => ?_, fun c => ?_⟩
  · rw [ti_lt, ti_0] at c
    exact ok_ret.mpr ⟨rfl, Or.inr ⟨ti_0, by omega⟩⟩
  · rw [ti_lt, ti_0] at c
    rw [ok_cd]
    refine ⟨fun d => ?_, fun d => ?_⟩
    · rw [ti_le, ti_6] at d
      exact ok_ret.mpr ⟨rfl, Or.inr ⟨ti_0, by omega⟩⟩
    · rw [ti_le, ti_6] at d
      exact ok_ret.mpr ⟨rfl, Or.inl ⟨ti_1, by omega⟩⟩
theorem c_Min : ok (f_M_in N 133 a a1 a2 w) (fun r u => u = w ∧ bt r (a1.toInt ≤ a.toInt ∧ a.toInt ≤ a2.toInt)) := by
  unfold f_M_in f_M_in_b0
  rw [ok_cd]
  refine ⟨fun c => ?_, fun c => ?_⟩
  · rw [ti_lt] at c
    exact ok_ret.mpr ⟨rfl, Or.inr ⟨ti_0, by omega⟩⟩
  · rw [ti_lt] at c
    rw [ok_cd]
    refine ⟨fun d => ?_, fun d => ?_⟩
    · rw [ti_lt] at d
      exact ok_ret.mpr ⟨rfl, Or.inr ⟨ti_0, by omega⟩⟩
    · rw [ti_lt] at d
      exact ok_ret.mpr ⟨rfl, Or.inl ⟨ti_1, by omega⟩⟩
theorem c_Mprice (hL : Lay w) : ok (f_M_isPrice N 133 a w) (fun r u => u = w ∧ bt r (1 ≤ a.toInt ∧ a.toInt ≤ 199)) := by
  have hm := lay_M hL
  unfold f_M_isPrice f_M_isPrice_b0
  simp only [ok_gd, ok_bd, ok_rr1, ok_nr0, ok_nr1, ok_ret, true_and, and_true, not_false_eq_true, sh_sI, sh_sR, sh_sL, gR_sI, gR_sL, gI_sR, gI_sL, sh_cI, gR_cI, hm]
  refine ok_call c_Min ?_
  rintro r u ⟨rfl, hr⟩
  exact ok_gdt hr.g (ok_ret.mpr ⟨rfl, hr⟩)
theorem c_Msort (hL : Lay w) : ok (f_M_isSort N 133 a w) (fun r u => u = w ∧ bt r (0 ≤ a.toInt ∧ a.toInt < 6)) := by
  have hm := lay_M hL
  unfold f_M_isSort f_M_isSort_b0
  simp only [ok_gd, ok_bd, ok_rr1, ok_nr0, ok_nr1, ok_ret, true_and, and_true, not_false_eq_true, sh_sI, sh_sR, sh_sL, gR_sI, gR_sL, gI_sR, gI_sL, sh_cI, gR_cI, hm]
  refine ok_call c_Min ?_
  rintro r u ⟨rfl, hr⟩
  refine ok_gdt hr.g (ok_ret.mpr ⟨rfl, ?_⟩)
  rw [ti_0, ti_5] at hr
  rcases hr with ⟨h, c⟩ | ⟨h, c⟩
  · exact Or.inl ⟨h, by omega⟩
  · exact Or.inr ⟨h, by omega⟩
theorem c_Mpayer {c : Nat} (hL : Lay w) (hc : (gI w 133 0).toInt = (c : Int)) : ok (f_M_isPayer N 133 a w) (fun r u => u = w ∧ bt r (0 ≤ a.toInt ∧ a.toInt < (c : Int))) := by
  have hm := lay_M hL
  unfold f_M_isPayer f_M_isPayer_b0
  simp only [ok_gd, ok_bd, ok_rr1, ok_nr0, ok_nr1, ok_ret, true_and, and_true, not_false_eq_true, sh_sI, sh_sR, sh_sL, gR_sI, gR_sL, gI_sR, gI_sL, sh_cI, gR_cI, hm]
  refine ok_call c_Min ?_
  rintro r u ⟨rfl, hr⟩
  refine ok_gdt hr.g (ok_ret.mpr ⟨rfl, ?_⟩)
  rw [ti_0, ti_sub1 (by omega), hc] at hr
  rcases hr with ⟨h, c⟩ | ⟨h, c⟩
  · exact Or.inl ⟨h, by omega⟩
  · exact Or.inr ⟨h, by omega⟩
theorem c_Xpayer {c : Nat} {ob : Nat → Nat} (hL : Lay w) (hc : (gI w 9 1).toInt = (c : Int)) (hc4 : c ≤ 4) (hr : ∀ p, p < c → gR w 10 p = some (ob p)) : ok (f_X_payerAt N 0 a w) (fun r u => u = w ∧ ((∃ p, p < c ∧ a.toInt = ((p : Nat) : Int) ∧ r = some (ob p)) ∨ (¬ (0 ≤ a.toInt ∧ a.toInt < (c : Int)) ∧ r = none))) := by
  have hx := lay_X hL
  unfold f_X_payerAt f_X_payerAt_b0
  rw [ok_cd]
  refine ⟨fun z => ?_, fun z => ?_⟩
  · rw [ti_lt, ti_0] at z
    exact ok_ret.mpr ⟨rfl, Or.inr ⟨by omega, rfl⟩⟩
  · rw [ti_lt, ti_0] at z
    simp only [ok_gd, ok_bd, ok_rr1, ok_nr0, ok_nr1, ok_ret, true_and, and_true, not_false_eq_true, sh_sI, sh_sR, sh_sL, gR_sI, gR_sL, gI_sR, gI_sL, sh_cI, gR_cI, hx]
    rw [ok_cd]
    refine ⟨fun g => ?_, fun g => ?_⟩
    · rw [ti_lt, hc] at g
      obtain ⟨p, hp⟩ : ∃ p : Nat, a.toInt = (p : Int) := ⟨a.toInt.toNat, by omega⟩
      have n1 := nat_of hp
      have g1 := ix_of (m := 4) hp (by omega)
      rw [n1] at g1
      simp only [ok_gd, ok_bd, ok_rr1, ok_nr0, ok_nr1, ok_ret, true_and, and_true, not_false_eq_true, sh_sI, sh_sR, sh_sL, gR_sI, gR_sL, gI_sR, gI_sL, sh_cI, gR_cI, hx, n1, g1, hr p (by omega)]
      exact Or.inl ⟨p, by omega, hp, rfl⟩
    · rw [ti_lt, hc] at g
      exact ok_ret.mpr ⟨rfl, Or.inr ⟨by omega, rfl⟩⟩
end PREDS
section PAY
variable {w : gW} {N : Nat}
theorem c_coinsOf {x : List Nat} (hN : 1000 ≤ N) (hL : Lay w) (hx : h2 x) (h : ∀ s, s < 6 → (gI w 155 s).toInt = gx x s) : ok (f_M_coinsOf N 133 w) (fun r u => u = w ∧ r.toInt = hcnt x) := by
  have hm := lay_M hL
  obtain ⟨T, T0, T1, T6, TB⟩ := sum6 (f := fun s => gx x s)
  have eT : T 6 = hcnt x := by rw [T6]; rfl
  unfold f_M_coinsOf f_M_coinsOf_b0 f_M_coinsOf_l4
  rw [← eT]
  refine itr_up (fun k q => q.1 = 133 ∧ q.2.2.2 = w ∧ q.2.2.1.toInt = (k : Int) ∧ q.2.1.toInt = T k) 6 ?_ ?_ N 0 _ (by omega) ?_ (by omega)
  · rintro rec k ⟨b0, a1, a2, u⟩ hk ⟨e0, e1, e2, e3⟩ IH
    simp only at e0 e1 e2 e3
    subst e0 e1
    have n1 := nat_of e2
    have g1 := ix_of (m := 6) e2 hk
    rw [n1] at g1
    have k9 : k < 2147483647 := by omega
    have TBk := TB 2 k (fun j _ => hx.g j)
    have gk := hx.g k
    have t1 : (a1 + gI u 155 k).toInt = T (k + 1) := by rw [T1, ti_add] <;> rw [h k hk, e3] <;> omega
    refine ok_cdf (by rw [ti_le, e2, ti_6]; omega) ?_
    simp only [ok_gd, ok_bd, ok_rr1, ok_nr0, ok_nr1, ok_ret, true_and, and_true, not_false_eq_true, sh_sI, sh_sR, sh_sL, gR_sI, gR_sL, gI_sR, gI_sL, sh_cI, gR_cI, hm, n1, g1]
    refine IH _ ?_
    exact ⟨rfl, rfl, ti_p1 e2 k9, t1⟩
  · rintro rec ⟨b0, a1, a2, u⟩ ⟨e0, e1, e2, e3⟩
    simp only at e0 e1 e2 e3
    subst e0 e1
    refine ok_cdt (by rw [ti_le, e2, ti_6]; decide) ?_
    exact ok_ret.mpr ⟨rfl, e3⟩
  · exact ⟨rfl, rfl, rfl, by rw [T0]; rfl⟩
theorem nS_o {A : PS} {p q : Nat} {price : Int} {y : List Nat} (h : q ≠ p) : (nS A p price y).1 q = A.1 q ∧ (nS A p price y).2.2 q = A.2.2 q := by
  simp only [nS]
  constructor
  · funext s; rw [if_neg h]
  · rw [if_neg h]
set_option maxHeartbeats 1000000 in
theorem p_pay {a1 a2 : Int32} (hN : 1000 ≤ N) (h : Sim w) : ok (f_X_pay N 0 a1 a2 w) (fun r w1 => ok (f_M_pay N 133 a1 a2 w1) (fun r' w2 => r = r' ∧ Sim w2)) := by
  obtain ⟨tp, L, b, hca, hma, hc, hob⟩ := h.ca
  have hx := lay_X h.1
  have hm := lay_M h.1
  have hc4 : sC w ≤ 4 := hca.2.2.2.1
  have e9 : (gI w 9 1).toInt = (sC w : Int) := by
    have := h.2.1.acnt
    unfold S_acnt eqC at this
    rw [this, hc]
  unfold f_X_pay f_X_pay_b0
  simp only [ok_gd, ok_bd, ok_rr1, ok_nr0, ok_nr1, ok_ret, true_and, and_true, not_false_eq_true, sh_sI, sh_sR, sh_sL, gR_sI, gR_sL, gI_sR, gI_sL, sh_cI, gR_cI, hx]
  refine ok_call (c_Xpayer h.1 e9 hc4 hob) ?_
  rintro r u ⟨rfl, hr⟩
  rcases hr with ⟨p, hp, ha, rfl⟩ | ⟨hr, rfl⟩
  · simp only [ok_gd, ok_bd, ok_rr1, ok_nr0, ok_nr1, ok_ret, true_and, and_true, not_false_eq_true, sh_sI, sh_sR, sh_sL, gR_sI, gR_sL, gI_sR, gI_sL, sh_cI, gR_cI]
    refine ok_call c_Xprice ?_
    rintro r1 u1 ⟨rfl, hr1⟩
    have hpr1 : 0 ≤ a1.toInt ∧ a1.toInt < (sC u1 : Int) := by omega
    -- the model's beginning
    have mod : ∀ (z : gW) (Q : Int32 → gW → Prop), Lay z → gI z 133 0 = gI u1 133 0 → (¬ (1 ≤ a2.toInt ∧ a2.toInt ≤ 199) → Q (-2) z) → ((1 ≤ a2.toInt ∧ a2.toInt ≤ 199) → ok (f_M_goes N 133 a1 a2 z) (fun r w1 => ok (cd (r = 0) (some ((-3), w1)) (gd ((sh w1 133).1 = 12) (kl (f_M_coinsOf N 133 w1) fun x13 w14 => some (x13, w14)))) Q)) → ok (f_M_pay N 133 a1 a2 z) Q := by
      intro z Q hLz hz h1 h2
      have hm := lay_M hLz
      unfold f_M_pay f_M_pay_b0
      simp only [ok_gd, ok_bd, ok_rr1, ok_nr0, ok_nr1, ok_ret, true_and, and_true, not_false_eq_true, sh_sI, sh_sR, sh_sL, gR_sI, gR_sL, gI_sR, gI_sL, sh_cI, gR_cI, hm]
      refine ok_call (c_Mpayer hLz (by rw [hz]; exact hc.symm)) ?_
      rintro r2 u2 ⟨rfl, hr2⟩
      refine ok_cdf (fun z => (hr2.z.mp z) hpr1) ?_
      simp only [ok_gd, ok_bd, ok_rr1, ok_nr0, ok_nr1, ok_ret, true_and, and_true, not_false_eq_true, sh_sI, sh_sR, sh_sL, gR_sI, gR_sL, gI_sR, gI_sL, sh_cI, gR_cI, hm]
      refine ok_call (c_Mprice hLz) ?_
      rintro r3 u3 ⟨rfl, hr3⟩
      rw [ok_cd]
      refine ⟨fun c => ok_ret.mpr (h1 (hr3.z.mp c)), fun c => ?_⟩
      simp only [ok_gd, ok_bd, ok_rr1, ok_nr0, ok_nr1, ok_ret, true_and, and_true, not_false_eq_true, sh_sI, sh_sR, sh_sL, gR_sI, gR_sL, gI_sR, gI_sL, sh_cI, gR_cI, hm]
      exact ok_kl.mpr (h2 (Classical.not_not.mp (fun z => c (hr3.z.mpr z))))
    rw [ok_cd]
    refine ⟨fun c => ?_, fun c => ?_⟩
    · have c' := hr1.z.mp c
      exact ok_ret.mpr (mod u1 _ h.1 rfl (fun _ => ⟨rfl, h⟩) (fun z => absurd z c'))
    · have hpr : 1 ≤ a2.toInt ∧ a2.toInt ≤ 199 := Classical.not_not.mp (fun z => c (hr1.z.mpr z))
      simp only [ok_gd, ok_bd, ok_rr1, ok_nr0, ok_nr1, ok_ret, true_and, and_true, not_false_eq_true, sh_sI, sh_sR, sh_sL, gR_sI, gR_sL, gI_sR, gI_sL, sh_cI, gR_cI, hx]
      refine ok_call (hca.choose hN hp rfl ⟨by omega, by omega⟩) ?_
      rintro r4 u4 ⟨f4, hca4, hr4⟩
      have fx : Fr ST SC u1 u4 := f4
      have hma4 : MA u4 (sC u1) b (sK u1) (sV u1) (sRo u1) L (sA u1) := hma.sc f4
      have e0 : gI u4 133 0 = gI u1 133 0 := f4.c ⟨by decide, by decide⟩
      rcases hr4 with ⟨hr4, hc4'⟩ | ⟨hr4, y, hy, hh⟩
      · refine ok_cdt (by rw [ti_eq, hr4, ti_0]) (ok_ret.mpr (mod u4 _ hca4.1 e0 (fun z => absurd hpr z) (fun _ => ?_)))
        refine (hma4.goes hN hp ha rfl ⟨by omega, by omega⟩).mono ?_
        rintro r5 u5 ⟨f5, hr5⟩
        rcases hr5 with ⟨hr5, hc5, hma5⟩ | ⟨hr5, y, hy, -, -⟩
        · refine ok_cdt (by rw [ti_eq, hr5, ti_0]) (ok_ret.mpr ⟨rfl, ?_⟩)
          exact h.of_state ((f4.up (by simp) (by simp)).tr (f5.1.up (by simp) (by simp))) (hca4.gf f5) hma5 hc h.z.1 h.z.2
        · rw [hc4'] at hy; cases hy
      · refine ok_cdf (by rw [ti_eq, hr4, ti_0]; decide) ?_
        have hx4 := lay_X hca4.1
        simp only [ok_gd, ok_bd, ok_rr1, ok_nr0, ok_nr1, ok_ret, true_and, and_true, not_false_eq_true, sh_sI, sh_sR, sh_sL, gR_sI, gR_sL, gI_sR, gI_sL, sh_cI, gR_cI, hx4]
        refine ok_call (hca4.settle hN hp (by omega) hy hh) ?_
        rintro - u6 ⟨f6, hca6⟩
        have hp4 : p < 4 := by omega
        have hx6 := lay_X hca6.1
        simp only [ok_gd, ok_bd, ok_rr1, ok_nr0, ok_nr1, ok_ret, true_and, and_true, not_false_eq_true, sh_sI, sh_sR, sh_sL, gR_sI, gR_sL, gI_sR, gI_sL, sh_cI, gR_cI, hx6]
        have hma6 : MA u6 (sC u1) b (sK u1) (sV u1) (sRo u1) L (sA u1) := hma4.cls f6 (by simp; omega) (by simp)
        have e6 : gI u6 133 0 = gI u1 133 0 := by rw [f6.c ⟨by simp; omega, by simp⟩]; exact e0
        have n9 : (gI u6 66 9).toInt = hcnt y := by rw [f6.c ⟨by simp; omega, by simp⟩]; exact hh.2.1.2.2.2
        obtain ⟨n1, n2, -⟩ := nS_rg hca.2.2.2.2.2.2.2.2.2.2.1 hca.2.2.2.2.2.1.2.2.1 hca.2.2.2.2.2.1.2.2.2.1 hp4 hy (by omega)
        refine mod u6 _ hca6.1 e6 (fun z => absurd hpr z) (fun _ => ?_)
        refine (hma6.goes hN hp ha rfl ⟨by omega, by omega⟩).mono ?_
        rintro r7 u7 ⟨f7, hr7⟩
        rcases hr7 with ⟨hr7, hc7, -⟩ | ⟨hr7, y', hy', hm7, hma7⟩
        · rw [hy] at hc7; cases hc7
        · rw [hy] at hy'; cases hy'
          refine ok_cdf (by rw [ti_eq, hr7, ti_0]; decide) ?_
          have hm77 := lay_M hma7.1
          simp only [ok_gd, ok_bd, ok_rr1, ok_nr0, ok_nr1, ok_ret, true_and, and_true, not_false_eq_true, sh_sI, sh_sR, sh_sL, gR_sI, gR_sL, gI_sR, gI_sL, sh_cI, gR_cI, hm77]
          refine ok_call (c_coinsOf hN hma7.1 n2 (fun s hs => (hm7.2 s hs).1)) ?_
          rintro r8 u8 ⟨rfl, hr8⟩
          refine ok_ret.mpr ⟨ti_eq.mpr (by rw [n9, hr8]), ?_⟩
          refine h.of_state (((f4.up (by simp) (by simp)).tr (f6.up2 ?_ ?_)).tr (f7.1.up (by simp) (by simp))) (hca6.gf f7) hma7 hc (fun q k h1 h2 h3 => ?_) (fun q h1 h2 => ?_)
          · intro a ha'
            simp only [List.mem_cons, List.not_mem_nil, or_false] at ha' ⊢
            omega
          · intro z hz
            simp only [List.mem_cons, List.not_mem_nil, or_false] at hz
            subst hz
            right; simp
          · rw [(nS_o (by omega)).1]; exact h.z.1 q k h1 h2 h3
          · rw [(nS_o (by omega)).2]; exact h.z.2 q h1 h2
  · simp only [ok_gd, ok_bd, ok_rr1, ok_nr0, ok_nr1, ok_ret, true_and, and_true, not_false_eq_true, sh_sI, sh_sR, sh_sL, gR_sI, gR_sL, gI_sR, gI_sL, sh_cI, gR_cI]
    have hm := lay_M h.1
    unfold f_M_pay f_M_pay_b0
    simp only [ok_gd, ok_bd, ok_rr1, ok_nr0, ok_nr1, ok_ret, true_and, and_true, not_false_eq_true, sh_sI, sh_sR, sh_sL, gR_sI, gR_sL, gI_sR, gI_sL, sh_cI, gR_cI, hm]
    refine ok_call (c_Mpayer h.1 hc.symm) ?_
    rintro r2 u2 ⟨rfl, hr2⟩
    exact ok_cdt (hr2.z.mpr hr) (ok_ret.mpr ⟨rfl, h⟩)
end PAY
