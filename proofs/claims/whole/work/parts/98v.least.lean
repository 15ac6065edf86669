/-! ===== the lightest purse, the fewest coins behind a payment: the class =====  -/
section LEASTC
variable {N W o p kd v pd tp s : Nat} {w : gW} {pu ti ro : Nat → Int} {L : List Cl} {x : List Nat} {price bar : Int} {wt : Bool}
/-- what is behind a hand: how heavy the purse is, how many coins it holds -/
def vlF (L : List Cl) (pu ti : Nat → Int) (price : Int) (wt : Bool) (x : List Nat) : Int := if wt = true then wgF L pu ti price x else pu 0 + pu 1 + pu 2 + pu 3 + pu 4 + pu 5 - hcnt x + (bx ti x price 0 + bx ti x price 1 + bx ti x price 2 + bx ti x price 3 + bx ti x price 4 + bx ti x price 5)
noncomputable def lsS (L : List Cl) (p kd pd : Nat) (pu ti : Nat → Int) (price : Int) (wt : Bool) : Option (List Nat) := bst (payA pu ti price) (vlF L pu ti price wt) (hLL L pu ti p kd pd (-1)) none
noncomputable def lsR (L : List Cl) (p kd pd : Nat) (pu ti : Nat → Int) (price : Int) (wt : Bool) : Int := match lsS L p kd pd pu ti price wt with
  | none => -5
  | some y => vlF L pu ti price wt y
theorem lsR_0 {kd pd : Nat} (h : lsS L p kd pd pu ti price wt = none) : lsR L p kd pd pu ti price wt = -5 := by unfold lsR; rw [h]
theorem lsR_1 {kd pd : Nat} {y : List Nat} (h : lsS L p kd pd pu ti price wt = some y) : lsR L p kd pd pu ti price wt = vlF L pu ti price wt y := by unfold lsR; rw [h]
theorem vlF_in (hw : WF L) (hl10 : L.length ≤ 10) (ht : ∀ s, s < 6 → 0 ≤ ti s ∧ ti s ≤ 99) (hp : ∀ s, s < 6 → 0 ≤ pu s ∧ pu s ≤ 99) (hx : h2 x) (hn : ∀ s, s < 6 → 0 ≤ pu s - gx x s) (hpr : price ≤ hsum x) : 0 ≤ vlF L pu ti price wt x ∧ vlF L pu ti price wt x ≤ 2000000 := by
  unfold vlF
  split
  · exact wgF_in hw hl10 ht hp hx hn hpr
  · have n0 := hn 0 (by omega); have n1 := hn 1 (by omega); have n2 := hn 2 (by omega); have n3 := hn 3 (by omega); have n4 := hn 4 (by omega); have n5 := hn 5 (by omega)
    have p0 := hp 0 (by omega); have p1 := hp 1 (by omega); have p2 := hp 2 (by omega); have p3 := hp 3 (by omega); have p4 := hp 4 (by omega); have p5 := hp 5 (by omega)
    have b0 := bx_in ht hx hpr (s := 0) (by omega); have b1 := bx_in ht hx hpr (s := 1) (by omega); have b2 := bx_in ht hx hpr (s := 2) (by omega); have b3 := bx_in ht hx hpr (s := 3) (by omega); have b4 := bx_in ht hx hpr (s := 4) (by omega); have b5 := bx_in ht hx hpr (s := 5) (by omega)
    have hs := hx.sum
    have ec : hcnt x = gx x 0 + gx x 1 + gx x 2 + gx x 3 + gx x 4 + gx x 5 := rfl
    omega
set_option maxHeartbeats 1000000 in
theorem c_leastBehind {a3 a4 : Int32} (hN : 1000 ≤ N) (hc : CP w W o p kd v pd tp pu ti ro L) (h3 : a3.toInt = price) (hpr : 0 ≤ price ∧ price ≤ 500) (h4 : a4 = 0 ↔ wt = false) :
    ok (f_Pm_leastBehind N 66 W o a3 a4 w) (fun r u => Fr ST SC w u ∧ r.toInt = lsR L p kd pd pu ti price wt) := by
  have hc0 := hc
  obtain ⟨hL, hW, -, hp4, -, ⟨-, -, twf, tl, -, -⟩, ⟨-, -, o3, -⟩, q1, q2, -⟩ := hc
  obtain ⟨p0, -⟩ := lay_P hL
  have hq1 : ∀ s, s < 6 → 0 ≤ pu s ∧ pu s ≤ 99 := fun s h => (q1 s h).2
  have hq2 : ∀ s, s < 6 → 0 ≤ ti s ∧ ti s ≤ 99 := fun s h => (q2 s h).2
  unfold f_Pm_leastBehind f_Pm_leastBehind_b0
  simp only [ok_gd, ok_bd, ok_rr1, ok_nr0, ok_nr1, ok_ret, true_and, and_true, not_false_eq_true, sh_sI, sh_sR, sh_sL, gR_sI, gR_sL, gI_sR, gI_sL, sh_cI, gR_cI, p0]
  refine ok_call (c_begin1 hN hc0 (Or.inl ⟨ti_0, rfl⟩)) ?_
  rintro r u ⟨f, epr, ehs, e67, er⟩
  have hvl : ∀ y, h2 y → (∀ s, s < 6 → 0 ≤ pu s - gx y s) → price ≤ hsum y → 0 ≤ vlF L pu ti price wt y ∧ vlF L pu ti price wt y ≤ 2000000 := fun y h h' h'' => vlF_in twf tl hq2 hq1 h h' h''
  have hrkW : wt = true → ∀ y, vlF L pu ti price wt y = wgF L pu ti price y := fun h y => by unfold vlF; rw [if_pos h]
  have hrkC : wt = false → ∀ y, vlF L pu ti price wt y = pu 0 + pu 1 + pu 2 + pu 3 + pu 4 + pu 5 - hcnt y + (bx ti y price 0 + bx ti y price 1 + bx ti y price 2 + bx ti y price 3 + bx ti y price 4 + bx ti y price 5) := fun h y => by unfold vlF; rw [if_neg (by rw [h]; decide)]
  have hl0 : lsS L p kd pd pu ti price wt = none → lsR L p kd pd pu ti price wt = -5 := lsR_0
  have hl1 : ∀ y, lsS L p kd pd pu ti price wt = some y → lsR L p kd pd pu ti price wt = vlF L pu ti price wt y := fun y => lsR_1
  generalize lsR L p kd pd pu ti price wt = res at hl0 hl1
  unfold lsS at hl0 hl1
  generalize vlF L pu ti price wt = rk at hvl hrkW hrkC hl0 hl1
  generalize eLL : hLL L pu ti p kd pd (-1) = LL at hl0 hl1
  generalize elims : l6f (limC L pu ti p kd pd (-1)) = lims at e67 er
  have hin : ∀ y, y ∈ LL → y.length = 6 ∧ h2 y ∧ ∀ s, s < 6 → 0 ≤ pu s - gx y s := fun y hy => hLL_in twf tl (fun s h => (hq1 s h).1) (by rw [← eLL] at hy; exact hy)
  have hlm : lims.length = 6 := by rw [← elims]; rfl
  have hl2 : ∀ s, lims.getD s 0 ≤ 2 := fun s => by
    by_cases hs : s < 6
    · rw [← elims, l6f_g hs]; exact limC_in twf s
    · rw [List.getD_eq_getElem?_getD, List.getElem?_eq_none (by omega)]; simp
  have hlen : LL.length ≤ 900 := by
    rw [← eLL, hLL, hl_len, ← pp_6]; exact Nat.le_trans (pp_in (fun s => limC_in twf s) 6) (by decide)
  have er' : r.toInt = ((LL.length : Nat) : Int) := by rw [er, ← eLL, hLL, elims, hl_len]
  obtain ⟨p0, -⟩ := lay_P (f.lay hL)
  simp only [ok_gd, ok_bd, ok_rr1, ok_nr0, ok_nr1, ok_ret, true_and, and_true, not_false_eq_true, sh_sI, sh_sR, sh_sL, gR_sI, gR_sL, gI_sR, gI_sL, sh_cI, gR_cI, p0]
  have f1 : Fr [] [(66, 7)] u (sI u 66 7 a3) := Fr_sI Fr.rf (by simp)
  have f2 : Fr ST SC w (sI u 66 7 a3) := f.tr (f1.up2 (by simp) (by simp))
  unfold f_Pm_leastBehind_l21
  refine itr_li (β := List Nat) (fun R q => q.1 = 66 ∧ q.2.1 = a4 ∧ q.2.2.1 = r ∧ (q.2.2.2.2.1.toInt + (R.length : Int) = (LL.length : Int) ∧ 0 ≤ q.2.2.2.2.1.toInt) ∧ Fr ST SC w q.2.2.2.2.2 ∧ (gI q.2.2.2.2.2 66 7).toInt = price ∧ PR q.2.2.2.2.2 W o ∧ (∀ s, s < 6 → (gI q.2.2.2.2.2 67 s).toInt = gx lims s) ∧ (∀ y ∈ R, y ∈ LL) ∧ (∀ y R', R = y :: R' → HS q.2.2.2.2.2 y ∧ chn lims y R') ∧ ∃ st, bst (payA pu ti price) rk R st = bst (payA pu ti price) rk LL none ∧ ((st = none ∧ q.2.2.2.1.toInt = 1000000000) ∨ ∃ y, st = some y ∧ q.2.2.2.1.toInt = rk y ∧ y ∈ LL ∧ payA pu ti price y)) ?_ ?_ LL N _ ?_ (by omega)
  · rintro rec x R ⟨b0, b1, b2, a6, a7, u1⟩ ⟨e0, e1, e2, ⟨e8, e8'⟩, f', e7, epr', e67', eR, eC, st, est, ebo⟩ IH
    simp only at e0 e1 e2 e8 e8' f' e7 epr' e67' eC ebo
    subst e0 e1 e2
    simp only [List.length_cons] at e8
    obtain ⟨ehs', ech⟩ := eC x R rfl
    have hxL := eR x List.mem_cons_self
    obtain ⟨hx6, hx2, hxn⟩ := hin x hxL
    have hcu := hc0.sc f'
    obtain ⟨p0, -⟩ := lay_P hcu.1
    have k9 : a7.toInt < 2147483647 := by omega
    have e8s : a7.toInt + 1 + (R.length : Int) = (LL.length : Int) := by omega
    have e8t : 0 ≤ a7.toInt + 1 := by omega
    have nxt : ∀ (u2 : gW) (a6' : Int32) (st' : Option (List Nat)), Fr [69] [] u1 u2 → bst (payA pu ti price) rk R st' = bst (payA pu ti price) rk LL none → ((st' = none ∧ a6'.toInt = 1000000000) ∨ ∃ y, st' = some y ∧ a6'.toInt = rk y ∧ y ∈ LL ∧ payA pu ti price y) → ok (f_Pm_leastBehind_b58 N rec 66 b1 b2 a6' a7 u2) (fun r u => Fr ST SC w u ∧ r.toInt = res) := by
      intro u2 a6' st' f3 est' ebo'
      have f4 := pay_sc f' f3
      obtain ⟨p0, -⟩ := lay_P (f4.lay hL)
      unfold f_Pm_leastBehind_b58
      simp only [ok_gd, ok_bd, ok_rr1, ok_nr0, ok_nr1, ok_ret, true_and, and_true, not_false_eq_true, sh_sI, sh_sR, sh_sL, gR_sI, gR_sL, gI_sR, gI_sL, sh_cI, gR_cI, p0]
      refine ok_call (c_advance hN (f4.lay hL) hlm (fun s hs => by rw [f3.i ⟨by decide, by simp⟩]; exact e67' s hs) hl2 (ehs'.fr f3 ⟨by decide, by simp⟩ (by decide) (by decide)) hx2) ?_
      rintro - u3 ⟨f5, hnx⟩
      simp only [ok_bd]
      refine IH _ ?_
      refine ⟨rfl, rfl, rfl, ⟨?_, ?_⟩, adv_sc f4 f5, ?_, (epr'.fr f3 (by decide) (by decide)).fr f5 (by decide) (by decide), fun s hs => ?_, fun y hy => eR y (List.mem_cons_of_mem _ hy), fun y R' hR' => ?_, st', est', ebo'⟩
      · show (a7 + 1).toInt + _ = _; rw [ti_add1 k9]; exact e8s
      · show 0 ≤ (a7 + 1).toInt; rw [ti_add1 k9]; exact e8t
      · show (gI u3 66 7).toInt = _; rw [f5.c (by decide), f3.i ⟨by decide, by simp⟩]; exact e7
      · show (gI u3 67 s).toInt = _; rw [f5.i ⟨by decide, by simp⟩, f3.i ⟨by decide, by simp⟩]; exact e67' s hs
      · subst hR'
        simp only [chn] at ech
        exact ⟨(hnx y ech.1).1, ech.2⟩
    show ok (f_Pm_leastBehind_b21 N rec 66 b1 b2 a6 a7 u1) _
    unfold f_Pm_leastBehind_b21
    refine ok_cdf (by rw [ti_le, er']; omega) ?_
    simp only [ok_gd, p0, true_and]
    refine ok_call (c_pays hN hcu epr' ehs' hx2 e7 (by omega)) ?_
    rintro r1 u2 ⟨f3, hr1⟩
    have f4 := pay_sc f' f3
    rcases hr1 with ⟨hr1, hP, hb9⟩ | ⟨hr1, hP⟩
    · refine ok_cdf (by rw [ti_eq, hr1, ti_0]; decide) ?_
      have hcu2 := hc0.sc f4
      obtain ⟨p0, -⟩ := lay_P hcu2.1
      have hb9' : ∀ s, s < 6 → (gI u2 69 s).toInt = bx ti x price s ∧ 0 ≤ bx ti x price s ∧ bx ti x price s ≤ 999 := fun s hs => by
        have := bx_in hq2 hx2 hP.1 hs
        exact ⟨hb9 s hs, by omega, by omega⟩
      have epr2 := epr'.fr f3 (by decide) (by decide)
      have ehs2 := ehs'.fr f3 ⟨by decide, by simp⟩ (by decide) (by decide)
      have hxv := hvl x hx2 hxn hP.1
      have b53 : ∀ (z0 : Int32), z0.toInt = rk x → ok (f_Pm_leastBehind_b53 N rec 66 b1 b2 a7 z0 a6 u2) (fun r u => Fr ST SC w u ∧ r.toInt = res) := by
        intro z0 hz0
        unfold f_Pm_leastBehind_b53
        rw [ok_bd]
        have est2 : bst (payA pu ti price) rk R (stp (payA pu ti price) rk st x) = bst (payA pu ti price) rk LL none := est
        refine nxt u2 _ _ f3 est2 (Or.inr ?_)
        rcases ebo with ⟨rfl, e6⟩ | ⟨y, rfl, e6, hyL, hyP⟩
        · rw [stp_0 hP]
          refine ⟨x, rfl, ?_, hxL, hP⟩
          rw [ti_min, hz0, e6]; omega
        · by_cases g : rk x < rk y
          · rw [stp_1 hP g]
            exact ⟨x, rfl, by rw [ti_min, hz0, e6]; omega, hxL, hP⟩
          · rw [stp_2 g]
            exact ⟨y, rfl, by rw [ti_min, hz0, e6]; omega, hyL, hyP⟩
      rw [ok_cd]
      refine ⟨fun g => ?_, fun g => ?_⟩
      · simp only [ok_gd, p0, true_and]
        refine ok_call (c_coinsBehind hN hcu2 epr2 ehs2 hx2 hb9') ?_
        rintro r3 u3 ⟨rfl, hr3⟩
        exact b53 r3 (by rw [hr3, hrkC (h4.mp g)])
      · simp only [ok_gd, p0, true_and]
        refine ok_call (c_weightBehind hN hcu2 epr2 ehs2 hx2 hb9' hxn) ?_
        rintro r3 u3 ⟨rfl, hr3⟩
        exact b53 r3 (by rw [hr3, hrkW (by cases wt; exact absurd (h4.mpr rfl) g; rfl)]; rfl)
    · refine ok_cdt (by rw [ti_eq, hr1, ti_0]) ?_
      refine nxt u2 a6 st f3 ?_ ebo
      rw [← est]
      show _ = bst _ rk R (stp _ rk st x)
      rw [stp_no hP]
  · rintro rec ⟨b0, b1, b2, a6, a7, u1⟩ ⟨e0, e1, e2, ⟨e8, e8'⟩, f', e7, epr', e67', eR, eC, st, est, ebo⟩
    simp only at e0 e1 e2 e8 e8' f' ebo
    subst e0 e1 e2
    simp only [List.length_nil] at e8
    have est' : st = bst (payA pu ti price) rk LL none := est
    show ok (f_Pm_leastBehind_b21 N rec 66 b1 b2 a6 a7 u1) _
    unfold f_Pm_leastBehind_b21
    refine ok_cdt (by rw [ti_le, er']; omega) ?_
    rcases ebo with ⟨rfl, e6⟩ | ⟨y, rfl, e6, hyL, hyP⟩
    · exact ok_cdt (by rw [ti_eq, e6, ti_huge]) (ok_ret.mpr ⟨f', by rw [hl0 est'.symm]; exact ti_n5⟩)
    · obtain ⟨-, hy2, hyn⟩ := hin y hyL
      have := hvl y hy2 hyn hyP.1
      exact ok_cdf (by rw [ti_eq, e6, ti_huge]; omega) (ok_ret.mpr ⟨f', by rw [hl1 y est'.symm]; exact e6⟩)
  · obtain ⟨t, ht, hch⟩ := hl_chn lims
    have eLL' : LL = [0, 0, 0, 0, 0, 0] :: t := by rw [← eLL, hLL, elims, ht, hlm]; rfl
    refine ⟨rfl, rfl, rfl, ⟨?_, ?_⟩, f2, by rw [gI_eq]; exact h3, epr.fr f1 (by decide) (by decide), fun s hs => by rw [f1.i ⟨by simp, by simp⟩]; exact e67 s hs, fun y hy => hy, fun y R' hR' => ?_, none, rfl, Or.inl ⟨rfl, ti_huge⟩⟩
    · show (0 : Int32).toInt + _ = _; rw [ti_0, Int.zero_add]
    · show 0 ≤ (0 : Int32).toInt; rw [ti_0]; decide
    · rw [eLL'] at hR'
      cases hR'
      rw [hlm] at hch
      exact ⟨ehs.fr f1 ⟨by simp, by simp⟩ (by decide) (by decide), hch⟩
end LEASTC
