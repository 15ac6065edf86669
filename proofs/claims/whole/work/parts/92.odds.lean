/-! ===== can one pay at all: odds =====  -/
theorem bst_none {P : List Nat → Prop} {rk : List Nat → Int} : ∀ (L : List (List Nat)), bst P rk L none = none ↔ ∀ x ∈ L, ¬ P x := by
  have some_ : ∀ (L : List (List Nat)) (y : List Nat), bst P rk L (some y) ≠ none := by
    intro L
    induction L with
    | nil => intro y h; cases h
    | cons x L ih =>
      intro y h
      have e : bst P rk (x :: L) (some y) = bst P rk L (stp P rk (some y) x) := rfl
      rw [e] at h
      by_cases hp : P x
      · by_cases g : rk x < rk y
        · rw [stp_1 hp g] at h; exact ih x h
        · rw [stp_2 g] at h; exact ih y h
      · rw [stp_no hp] at h; exact ih y h
  intro L
  induction L with
  | nil => exact ⟨fun _ x hx => (by cases hx), fun _ => rfl⟩
  | cons x L ih =>
    have e : bst P rk (x :: L) none = bst P rk L (stp P rk none x) := rfl
    rw [e]
    by_cases hp : P x
    · rw [stp_0 hp]
      exact ⟨fun h => absurd h (some_ L x), fun h => absurd hp (h x List.mem_cons_self)⟩
    · rw [stp_no hp, ih]
      exact ⟨fun h y hy => (by rcases List.mem_cons.mp hy with rfl | hy; exact hp; exact h y hy), fun h y hy => h y (List.mem_cons_of_mem _ hy)⟩
section CAN
variable {N W o p kd v pd tp s : Nat} {w : gW} {pu ti ro : Nat → Int} {L : List Cl} {x : List Nat} {price bar : Int}
set_option maxHeartbeats 1000000 in
theorem c_canPay {a3 : Int32} (hN : 1000 ≤ N) (hc : CP w W o p kd v pd tp pu ti ro L) (h3 : a3.toInt = price) (hpr : 0 ≤ price ∧ price ≤ 500) :
    ok (f_Pm_canPay N 66 W o a3 w) (fun r u => Fr ST SC w u ∧ bt r (chS L p kd v pd pu ti ro price ≠ none)) := by
  have hc0 := hc
  obtain ⟨hL, hW, -, hp4, -, ⟨-, -, twf, tl, -, -⟩, ⟨-, -, o3, -⟩, q1, q2, -⟩ := hc
  obtain ⟨p0, -⟩ := lay_P hL
  have hq1 : ∀ s, s < 6 → 0 ≤ pu s ∧ pu s ≤ 99 := fun s h => (q1 s h).2
  unfold f_Pm_canPay f_Pm_canPay_b0
  simp only [ok_gd, ok_bd, ok_rr1, ok_nr0, ok_nr1, ok_ret, true_and, and_true, not_false_eq_true, sh_sI, sh_sR, sh_sL, gR_sI, gR_sL, gI_sR, gI_sL, sh_cI, gR_cI, p0]
  refine ok_call (c_begin1 hN hc0 (Or.inr ⟨ti_1, rfl⟩)) ?_
  rintro r u ⟨f, epr, ehs, e67, er⟩
  unfold chS
  generalize eLL : hLL L pu ti p kd pd (barF kd v pd ro) = LL
  generalize elims : l6f (limC L pu ti p kd pd (barF kd v pd ro)) = lims at e67 er
  have hin : ∀ y, y ∈ LL → y.length = 6 ∧ h2 y ∧ ∀ s, s < 6 → 0 ≤ pu s - gx y s := fun y hy => hLL_in twf tl (fun s h => (hq1 s h).1) (by rw [← eLL] at hy; exact hy)
  have hlm : lims.length = 6 := by rw [← elims]; rfl
  have hl2 : ∀ s, lims.getD s 0 ≤ 2 := fun s => by
    by_cases hs : s < 6
    · rw [← elims, l6f_g hs]; exact limC_in twf s
    · rw [List.getD_eq_getElem?_getD, List.getElem?_eq_none (by omega)]; simp
  have hlen : LL.length ≤ 900 := by
    rw [← eLL, hLL, hl_len, ← pp_6]; exact Nat.le_trans (pp_in (fun s => limC_in twf s) 6) (by decide)
  have er' : r.toInt = ((LL.length : Nat) : Int) := by rw [er, ← eLL, hLL, elims, hl_len]
  obtain ⟨p0, -⟩ := lay_P (f.lay hL)
  simp only [ok_gd, ok_bd, ok_rr1, ok_nr0, ok_nr1, ok_ret, true_and, and_true, not_false_eq_true, sh_sI, sh_sR, sh_sL, gR_sI, gR_sL, gI_sR, gI_sL, sh_cI, gR_cI, p0]
  have f1 : Fr [] [(66, 7)] u (sI u 66 7 a3) := Fr_sI Fr.rf (by simp)
  have f2 : Fr ST SC w (sI u 66 7 a3) := f.tr (f1.up2 (by simp) (by simp))
  unfold f_Pm_canPay_l17
  refine itr_li (β := List Nat) (fun R q => q.1 = 66 ∧ q.2.1 = r ∧ q.2.2.1.toInt + (R.length : Int) = (LL.length : Int) ∧ 0 ≤ q.2.2.1.toInt ∧ Fr ST SC w q.2.2.2 ∧ (gI q.2.2.2 66 7).toInt = price ∧ PR q.2.2.2 W o ∧ (∀ s, s < 6 → (gI q.2.2.2 67 s).toInt = gx lims s) ∧ (∀ y ∈ R, y ∈ LL) ∧ (∀ y R', R = y :: R' → HS q.2.2.2 y ∧ chn lims y R') ∧ ∀ y ∈ LL, y ∈ R ∨ ¬ payA pu ti price y) ?_ ?_ LL N _ ?_ (by omega)
  · rintro rec x R ⟨b0, b1, a5, u1⟩ ⟨e0, e1, e8, e8', f', e7, epr', e67', eR, eC, eN⟩ IH
    simp only at e0 e1 e8 e8' f' e7 epr' e67' eC
    subst e0 e1
    simp only [List.length_cons] at e8
    obtain ⟨ehs', ech⟩ := eC x R rfl
    have hxL := eR x List.mem_cons_self
    obtain ⟨hx6, hx2, hxn⟩ := hin x hxL
    have hcu := hc0.sc f'
    obtain ⟨p0, -⟩ := lay_P hcu.1
    have k9 : a5.toInt < 2147483647 := by omega
    have e8s : a5.toInt + 1 + (R.length : Int) = (LL.length : Int) := by omega
    have e8t : 0 ≤ a5.toInt + 1 := by omega
    show ok (f_Pm_canPay_b17 N rec 66 b1 a5 u1) _
    unfold f_Pm_canPay_b17
    refine ok_cdf (by rw [ti_le, er']; omega) ?_
    simp only [ok_gd, ok_bd, ok_rr1, ok_nr0, ok_nr1, ok_ret, true_and, and_true, not_false_eq_true, sh_sI, sh_sR, sh_sL, gR_sI, gR_sL, gI_sR, gI_sL, sh_cI, gR_cI, p0]
    refine ok_call (c_pays hN hcu epr' ehs' hx2 e7 (by omega)) ?_
    rintro r1 u2 ⟨f3, hr1⟩
    have f4 := pay_sc f' f3
    rcases hr1 with ⟨hr1, hP, -⟩ | ⟨hr1, hP⟩
    · refine ok_cdf (by rw [ti_eq, hr1, ti_0]; decide) (ok_ret.mpr ⟨f4, Or.inl ⟨ti_1, fun z => ?_⟩⟩)
      rw [bst_none] at z
      exact z x hxL hP
    · obtain ⟨p0, -⟩ := lay_P (f4.lay hL)
      refine ok_cdt (by rw [ti_eq, hr1, ti_0]) ?_
      simp only [ok_gd, ok_bd, ok_rr1, ok_nr0, ok_nr1, ok_ret, true_and, and_true, not_false_eq_true, sh_sI, sh_sR, sh_sL, gR_sI, gR_sL, gI_sR, gI_sL, sh_cI, gR_cI, p0]
      refine ok_call (c_advance hN (f4.lay hL) hlm (fun s hs => by rw [f3.i ⟨by decide, by simp⟩]; exact e67' s hs) hl2 (ehs'.fr f3 ⟨by decide, by simp⟩ (by decide) (by decide)) hx2) ?_
      rintro - u3 ⟨f5, hnx⟩
      simp only [ok_bd]
      refine IH _ ?_
      refine ⟨rfl, rfl, ?_, ?_, adv_sc f4 f5, ?_, (epr'.fr f3 (by decide) (by decide)).fr f5 (by decide) (by decide), fun s hs => ?_, fun y hy => eR y (List.mem_cons_of_mem _ hy), fun y R' hR' => ?_, fun y hy => ?_⟩
      · show (a5 + 1).toInt + _ = _; rw [ti_add1 k9]; exact e8s
      · show 0 ≤ (a5 + 1).toInt; rw [ti_add1 k9]; exact e8t
      · show (gI u3 66 7).toInt = _; rw [f5.c (by decide), f3.i ⟨by decide, by simp⟩]; exact e7
      · show (gI u3 67 s).toInt = _; rw [f5.i ⟨by decide, by simp⟩, f3.i ⟨by decide, by simp⟩]; exact e67' s hs
      · subst hR'
        simp only [chn] at ech
        exact ⟨(hnx y ech.1).1, ech.2⟩
      · rcases eN y hy with g | g
        · rcases List.mem_cons.mp g with rfl | g
          · exact Or.inr hP
          · exact Or.inl g
        · exact Or.inr g
  · rintro rec ⟨b0, b1, a5, u1⟩ ⟨e0, e1, e8, e8', f', e7, epr', e67', eR, eC, eN⟩
    simp only at e0 e1 e8 e8' f'
    subst e0 e1
    simp only [List.length_nil] at e8
    show ok (f_Pm_canPay_b17 N rec 66 b1 a5 u1) _
    unfold f_Pm_canPay_b17
    refine ok_cdt (by rw [ti_le, er']; omega) (ok_ret.mpr ⟨f', Or.inr ⟨ti_0, fun z => z ?_⟩⟩)
    rw [bst_none]
    intro y hy
    rcases eN y hy with g | g
    · cases g
    · exact g
  · obtain ⟨t, ht, hch⟩ := hl_chn lims
    have eLL' : LL = [0, 0, 0, 0, 0, 0] :: t := by rw [← eLL, hLL, elims, ht, hlm]; rfl
    refine ⟨rfl, rfl, ?_, ?_, f2, by rw [gI_eq]; exact h3, epr.fr f1 (by decide) (by decide), fun s hs => by rw [f1.i ⟨by simp, by simp⟩]; exact e67 s hs, fun y hy => hy, fun y R' hR' => ?_, fun y hy => Or.inl hy⟩
    · show (0 : Int32).toInt + _ = _; rw [ti_0, Int.zero_add]
    · show 0 ≤ (0 : Int32).toInt; rw [ti_0]; decide
    · rw [eLL'] at hR'
      cases hR'
      rw [hlm] at hch
      exact ⟨ehs.fr f1 ⟨by simp, by simp⟩ (by decide) (by decide), hch⟩
end CAN
section ODDS
variable {N c tp b p : Nat} {w u z : gW} {kd v ob : Nat → Nat} {ro : Nat → Nat → Int} {L : List Cl} {A : PS} {a a1 a2 : Int32} {price : Int} {W : Nat}
theorem CA.canPay {a3 : Int32} (hN : 1000 ≤ N) (h : CA w W c tp kd v ob ro L A) (hp : p < c) (h3 : a3.toInt = price) (hpr : 0 ≤ price ∧ price ≤ 500) :
    ok (f_Pm_canPay N 66 W (ob p) a3 w) (fun r u => Fr ST SC w u ∧ bt r (cS L kd v ro A p price ≠ none)) := c_canPay hN (h.cp hp) h3 hpr
/-- how many of the prices 1 .. k can be paid -/
noncomputable def odS (g : Nat → Option (List Nat)) : Nat → Nat
  | 0 => 0
  | k + 1 => match g (k + 1) with
    | none => odS g k
    | some _ => odS g k + 1
theorem odS_in {g : Nat → Option (List Nat)} : ∀ k, odS g k ≤ k := by
  intro k
  induction k with
  | zero => exact Nat.le_refl _
  | succ k ih => simp only [odS]; split <;> omega
theorem ti_21 : (21 : Int32).toInt = 21 := rfl
set_option maxHeartbeats 1000000 in
theorem c_Xodds (hN : 1000 ≤ N) (h : CX w c tp b kd v ob ro L A) (hp : p < c) : ok (f_X_odds_l29 N 0 a2 (ob p) 0 1 w) (fun r u => RF w u ∧ r.toInt = frS (odS (fun n => cS L kd v ro A p n) 20) 20 a2.toInt) := by
  unfold f_X_odds_l29
  refine itr_up (fun k q => q.1 = 0 ∧ q.2.1 = a2 ∧ q.2.2.1 = ob p ∧ q.2.2.2.2.1.toInt = ((k + 1 : Nat) : Int) ∧ RF w q.2.2.2.2.2 ∧ q.2.2.2.1.toInt = ((odS (fun n => cS L kd v ro A p n) k : Nat) : Int)) 20 ?_ ?_ N 0 _ (by omega) ?_ (by omega)
  · rintro rec k ⟨b0, b1, b2, a4, a5, u⟩ hk ⟨e0, e1, e2, e5, f, e4⟩ IH
    simp only at e0 e1 e2 e5 f e4
    subst e0 e1 e2
    obtain ⟨hS, hca, -⟩ := h.rf f
    have hx := lay_X hS.1
    have k9 : k + 1 < 2147483647 := by omega
    have oi := odS_in (g := fun n => cS L kd v ro A p n) k
    refine ok_cdf (by rw [ti_lt, e5, ti_20]; omega) ?_
    simp only [ok_gd, ok_bd, ok_rr1, ok_nr0, ok_nr1, ok_ret, true_and, and_true, not_false_eq_true, sh_sI, sh_sR, sh_sL, gR_sI, gR_sL, gI_sR, gI_sL, sh_cI, gR_cI, hx]
    refine ok_call (hca.canPay (price := ((k + 1 : Nat) : Int)) hN hp e5 (by omega)) ?_
    rintro r1 u1 ⟨f1, hr1⟩
    have fr : RF w u1 := f.tr (scRM f1).rF
    rw [ok_cd]
    refine ⟨fun c => ?_, fun c => ?_⟩
    · have hn := Classical.not_not.mp (hr1.z.mp c)
      have e : odS (fun n => cS L kd v ro A p n) (k + 1) = odS (fun n => cS L kd v ro A p n) k := by simp only [odS, hn]
      simp only [ok_bd]
      refine IH _ ?_
      rw [e]
      exact ⟨rfl, rfl, rfl, ti_p1 e5 k9, fr, e4⟩
    · have hn : cS L kd v ro A p ((k + 1 : Nat) : Int) ≠ none := Classical.not_not.mp (fun z => c (hr1.z.mpr z))
      obtain ⟨y, hy⟩ := Option.ne_none_iff_exists'.mp hn
      have e : odS (fun n => cS L kd v ro A p n) (k + 1) = odS (fun n => cS L kd v ro A p n) k + 1 := by simp only [odS, hy]
      have o9 : odS (fun n => cS L kd v ro A p n) k < 2147483647 := by omega
      simp only [ok_bd]
      refine IH _ ?_
      rw [e]
      exact ⟨rfl, rfl, rfl, ti_p1 e5 k9, fr, ti_p1 e4 o9⟩
  · rintro rec ⟨b0, b1, b2, a4, a5, u⟩ ⟨e0, e1, e2, e5, f, e4⟩
    simp only at e0 e1 e2 e5 f e4
    subst e0 e1 e2
    have oi := odS_in (g := fun n => cS L kd v ro A p n) 20
    refine ok_cdt (by rw [ti_lt, e5, ti_20]; decide) ?_
    refine ok_call (c_frac (y := 20) hN e4 rfl (by omega) (by omega)) ?_
    rintro r u' ⟨rfl, hr⟩
    exact ok_ret.mpr ⟨f, hr⟩
  · exact ⟨rfl, rfl, rfl, rfl, RF.rf, rfl⟩
set_option maxHeartbeats 1000000 in
theorem c_Modds (hN : 1000 ≤ N) (h : CX w c tp b kd v ob ro L A) (hp : p < c) (h1 : a1.toInt = (p : Int)) : ok (f_M_odds_l27 N 133 a1 a2 0 1 w) (fun r u => RF w u ∧ r.toInt = frS (odS (fun n => cS L kd v ro A p n) 20) 20 a2.toInt) := by
  unfold f_M_odds_l27
  refine itr_up (fun k q => q.1 = 133 ∧ q.2.1 = a1 ∧ q.2.2.1 = a2 ∧ q.2.2.2.2.1.toInt = ((k + 1 : Nat) : Int) ∧ RF w q.2.2.2.2.2 ∧ q.2.2.2.1.toInt = ((odS (fun n => cS L kd v ro A p n) k : Nat) : Int)) 20 ?_ ?_ N 0 _ (by omega) ?_ (by omega)
  · rintro rec k ⟨b0, b1, b2, a3, a4, u⟩ hk ⟨e0, e1, e2, e5, f, e4⟩ IH
    simp only at e0 e1 e2 e5 f e4
    subst e0 e1 e2
    obtain ⟨hS, -, hma, -⟩ := h.rf f
    have hm := lay_M hS.1
    have k9 : k + 1 < 2147483647 := by omega
    have oi := odS_in (g := fun n => cS L kd v ro A p n) k
    refine ok_cdf (by rw [ti_le, e5, ti_21]; omega) ?_
    simp only [ok_gd, ok_bd, ok_rr1, ok_nr0, ok_nr1, ok_ret, true_and, and_true, not_false_eq_true, sh_sI, sh_sR, sh_sL, gR_sI, gR_sL, gI_sR, gI_sL, sh_cI, gR_cI, hm]
    refine ok_call (hma.choose (price := ((k + 1 : Nat) : Int)) hN hp h1 e5 (by omega)) ?_
    rintro r1 u1 ⟨f1, hr1⟩
    have fr : RF w u1 := f.tr (scRM (MT.st f1)).rF
    rcases hr1 with ⟨hr1, hcn⟩ | ⟨hr1, y, hcn, -⟩
    · have e : odS (fun n => cS L kd v ro A p n) (k + 1) = odS (fun n => cS L kd v ro A p n) k := by simp only [odS, hcn]
      have t0 : (a3 + 0).toInt = ((odS (fun n => cS L kd v ro A p n) k : Nat) : Int) := by rw [ti_add] <;> rw [ti_0, e4] <;> omega
      refine ok_cdt (by rw [ti_eq, hr1, ti_0]) ?_
      simp only [ok_bd]
      refine IH _ ?_
      rw [e]
      exact ⟨rfl, rfl, rfl, ti_p1 e5 k9, fr, t0⟩
    · have e : odS (fun n => cS L kd v ro A p n) (k + 1) = odS (fun n => cS L kd v ro A p n) k + 1 := by simp only [odS, hcn]
      have o9 : odS (fun n => cS L kd v ro A p n) k < 2147483647 := by omega
      refine ok_cdf (by rw [ti_eq, hr1, ti_0]; decide) ?_
      simp only [ok_bd]
      refine IH _ ?_
      rw [e]
      exact ⟨rfl, rfl, rfl, ti_p1 e5 k9, fr, ti_p1 e4 o9⟩
  · rintro rec ⟨b0, b1, b2, a3, a4, u⟩ ⟨e0, e1, e2, e5, f, e4⟩
    simp only at e0 e1 e2 e5 f e4
    subst e0 e1 e2
    have hm := lay_M (h.rf f).1.1
    have oi := odS_in (g := fun n => cS L kd v ro A p n) 20
    refine ok_cdt (by rw [ti_le, e5, ti_21]; decide) ?_
    simp only [ok_gd, ok_bd, ok_rr1, ok_nr0, ok_nr1, ok_ret, true_and, and_true, not_false_eq_true, sh_sI, sh_sR, sh_sL, gR_sI, gR_sL, gI_sR, gI_sL, sh_cI, gR_cI, hm]
    refine ok_call (c_lowest (y := 20) hN (h.rf f).1.1 e4 rfl (by omega) (by omega)) ?_
    rintro r u' ⟨rfl, hr⟩
    exact ok_ret.mpr ⟨f, hr⟩
  · exact ⟨rfl, rfl, rfl, rfl, RF.rf, rfl⟩
theorem p_odds (hN : 1000 ≤ N) (h : Sim w) : ok (f_X_odds N 0 a1 a2 w) (fun r w1 => ok (f_M_odds N 133 a1 a2 w1) (fun r' w2 => r = r' ∧ Sim w2)) := by
  obtain ⟨c, tp, b, kd, v, ob, ro, L, A, hx0⟩ := h.cx
  have mod : ∀ (z : gW) (Q : Int64 → gW → Prop), CX z c tp b kd v ob ro L A → (¬ ((0 ≤ a1.toInt ∧ a1.toInt < (c : Int)) ∧ 0 ≤ a2.toInt ∧ a2.toInt ≤ 1) → Q (-9223372036854775808) z) → ((0 ≤ a1.toInt ∧ a1.toInt < (c : Int)) → (0 ≤ a2.toInt ∧ a2.toInt ≤ 1) → ok (f_M_odds_l27 N 133 a1 a2 0 1 z) Q) → ok (f_M_odds N 133 a1 a2 z) Q := by
    intro z Q hxz h1 h2
    have hm := lay_M hxz.1.1
    unfold f_M_odds f_M_odds_b0
    simp only [ok_gd, ok_bd, ok_rr1, ok_nr0, ok_nr1, ok_ret, true_and, and_true, not_false_eq_true, sh_sI, sh_sR, sh_sL, gR_sI, gR_sL, gI_sR, gI_sL, sh_cI, gR_cI, hm]
    refine ok_call hxz.mp ?_
    rintro r1 u1 ⟨rfl, hr1⟩
    rw [ok_cd]
    refine ⟨fun c => ok_ret.mpr (h1 (fun z => (hr1.z.mp c) z.1)), fun c => ?_⟩
    simp only [ok_gd, ok_bd, ok_rr1, ok_nr0, ok_nr1, ok_ret, true_and, and_true, not_false_eq_true, sh_sI, sh_sR, sh_sL, gR_sI, gR_sL, gI_sR, gI_sL, sh_cI, gR_cI, hm]
    refine ok_call c_Min ?_
    rintro r2 u2 ⟨rfl, hr2⟩
    rw [ti_0, ti_1] at hr2
    rw [ok_cd]
    exact ⟨fun d => ok_ret.mpr (h1 (fun z => (hr2.z.mp d) z.2)), fun d => h2 (Classical.not_not.mp (fun z => c (hr1.z.mpr z))) (Classical.not_not.mp (fun z => d (hr2.z.mpr z)))⟩
  have hx := lay_X h.1
  unfold f_X_odds f_X_odds_b0
  simp only [ok_gd, ok_bd, ok_rr1, ok_nr0, ok_nr1, ok_ret, true_and, and_true, not_false_eq_true, sh_sI, sh_sR, sh_sL, gR_sI, gR_sL, gI_sR, gI_sL, sh_cI, gR_cI, hx]
  refine ok_call hx0.xp ?_
  rintro r1 u1 ⟨rfl, hr1⟩
  rcases hr1 with ⟨p, hp, ha, rfl⟩ | ⟨hr1, rfl⟩
  · simp only [ok_gd, ok_bd, ok_rr1, ok_nr0, ok_nr1, ok_ret, true_and, and_true, not_false_eq_true, sh_sI, sh_sR, sh_sL, gR_sI, gR_sL, gI_sR, gI_sL, sh_cI, gR_cI]
    rw [ok_cd]
    refine ⟨fun d => ?_, fun d => ?_⟩
    · rw [ti_lt, ti_0] at d
      exact ok_ret.mpr (mod u1 _ hx0 (fun _ => ⟨rfl, h⟩) (fun _ z => absurd z.1 (by omega)))
    · rw [ti_lt, ti_0] at d
      rw [ok_cd]
      refine ⟨fun g => ?_, fun g => ?_⟩
      · rw [ti_le, ti_1] at g
        refine (c_Xodds hN hx0 hp).mono ?_
        rintro r2 u2 ⟨f2, hr2⟩
        have hx2 := hx0.rf f2
        refine mod u2 _ hx2 (fun z => absurd ⟨by omega, by omega, g⟩ z) (fun _ _ => ?_)
        refine (c_Modds hN hx2 hp ha).mono ?_
        rintro r3 u3 ⟨f3, hr3⟩
        exact ⟨Int64.toInt_inj.mp (by rw [hr2, hr3]), hx2.1.rf f3⟩
      · rw [ti_le, ti_1] at g
        exact ok_ret.mpr (mod u1 _ hx0 (fun _ => ⟨rfl, h⟩) (fun _ z => absurd z.2 g))
  · simp only [ok_gd, ok_bd, ok_rr1, ok_nr0, ok_nr1, ok_ret, true_and, and_true, not_false_eq_true, sh_sI, sh_sR, sh_sL, gR_sI, gR_sL, gI_sR, gI_sL, sh_cI, gR_cI]
    exact mod u1 _ hx0 (fun _ => ⟨rfl, h⟩) (fun z => absurd z hr1)
end ODDS
