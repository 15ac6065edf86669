/-! ===== the lightest purse, the fewest coins behind a payment: the model; least =====  -/
section LEASTM
variable {N p kd v pd b s : Nat} {w : gW} {pu ti ro : Nat → Int} {L : List Cl} {x : List Nat} {a1 a2 a3 : Int32} {price : Int} {wt : Bool}
set_option maxHeartbeats 1000000 in
theorem c_MleastL (hN : 1000 ≤ N) (hc : MP w p kd v pd b pu ti ro L) (h1 : a1.toInt = (p : Int)) (h2' : a2.toInt = price) (hpr : 0 ≤ price ∧ price ≤ 500) (h3 : a3 = 0 ↔ wt = true) :
    ok (kl (f_M_layLimits N 133 a1 w) fun x13 w14 => f_M_least_l43 N 133 a1 a2 a3 (-5) 1 w14) (fun r u => Fr MT SC w u ∧ r.toInt = lsR L p kd pd pu ti price wt) := by
  have hc0 := hc
  obtain ⟨hL, hv, hwr, hpd, hp4, ⟨g1, g2, g3, g4, g5⟩, q1, q2, q3⟩ := hc
  obtain ⟨tl, -, twf, -⟩ := hv
  have hm := lay_M hL
  have hq1 : ∀ s, s < 6 → 0 ≤ pu s ∧ pu s ≤ 99 := fun s h => (q1 s h).2
  have hq2 : ∀ s, s < 6 → 0 ≤ ti s ∧ ti s ≤ 99 := fun s h => (q2 s h).2
  have hvl : ∀ y, h2 y → (∀ s, s < 6 → 0 ≤ pu s - gx y s) → price ≤ hsum y → 0 ≤ vlF L pu ti price wt y ∧ vlF L pu ti price wt y ≤ 2000000 := fun y h h' h'' => vlF_in twf tl hq2 hq1 h h' h''
  have hrkW : wt = true → ∀ y, vlF L pu ti price wt y = wgF L pu ti price y := fun h y => by unfold vlF; rw [if_pos h]
  have hrkC : wt = false → ∀ y, vlF L pu ti price wt y = pu 0 + pu 1 + pu 2 + pu 3 + pu 4 + pu 5 - hcnt y + (bx ti y price 0 + bx ti y price 1 + bx ti y price 2 + bx ti y price 3 + bx ti y price 4 + bx ti y price 5) := fun h y => by unfold vlF; rw [if_neg (by rw [h]; decide)]
  have hl0 : lsS L p kd pd pu ti price wt = none → lsR L p kd pd pu ti price wt = -5 := lsR_0
  have hl1 : ∀ y, lsS L p kd pd pu ti price wt = some y → lsR L p kd pd pu ti price wt = vlF L pu ti price wt y := fun y => lsR_1
  generalize lsR L p kd pd pu ti price wt = res at hl0 hl1
  unfold lsS at hl0 hl1
  generalize vlF L pu ti price wt = rk at hvl hrkW hrkC hl0 hl1
  generalize eLL : hLL L pu ti p kd pd (-1) = LL at hl0 hl1
  generalize elims : l6f (limC L pu ti p kd pd (-1)) = lims
  have hin : ∀ y, y ∈ LL → y.length = 6 ∧ h2 y ∧ ∀ s, s < 6 → 0 ≤ pu s - gx y s := fun y hy => hLL_in twf tl (fun s h => (hq1 s h).1) (by rw [← eLL] at hy; exact hy)
  have hlm : lims.length = 6 := by rw [← elims]; rfl
  have hl2 : ∀ s, lims.getD s 0 ≤ 2 := fun s => by
    by_cases hs : s < 6
    · rw [← elims, l6f_g hs]; exact limC_in twf s
    · rw [List.getD_eq_getElem?_getD, List.getElem?_eq_none (by omega)]; simp
  have hlen : LL.length ≤ 900 := by
    rw [← eLL, hLL, hl_len, ← pp_6]; exact Nat.le_trans (pp_in (fun s => limC_in twf s) 6) (by decide)
  refine ok_call (c_layLimits hN hc0 h1) ?_
  rintro - u0 ⟨f0, hl0'⟩
  have fs0 : Fr MT SC w u0 := f0.up (by simp) (by simp)
  unfold f_M_least_l43
  refine itr_li (β := List Nat) (fun R q => q.1 = 133 ∧ q.2.1 = a1 ∧ q.2.2.1 = a2 ∧ q.2.2.2.1 = a3 ∧ q.2.2.2.2.2.1.toInt = (if R = [] then 0 else 1) ∧ Fr MT SC w q.2.2.2.2.2.2 ∧ (∀ s, s < 6 → (gI q.2.2.2.2.2.2 151 s).toInt = gx lims s ∧ (gI q.2.2.2.2.2.2 154 s).toInt = heftF L s) ∧ (∀ y ∈ R, y ∈ LL) ∧ (∀ y R', R = y :: R' → MH q.2.2.2.2.2.2 y ∧ chn lims y R') ∧ ∃ st, bst (payA pu ti price) rk R st = bst (payA pu ti price) rk LL none ∧ ((st = none ∧ q.2.2.2.2.1.toInt = -5) ∨ ∃ y, st = some y ∧ q.2.2.2.2.1.toInt = rk y ∧ y ∈ LL ∧ payA pu ti price y)) ?_ ?_ LL N _ ?_ (by omega)
  · rintro rec x R ⟨q0, q1', q2', q3', a4, a5, u⟩ ⟨e0, e1, e2, e3, e5, f, e67, eR, eC, st, est, ebo⟩ IH
    simp only at e0 e1 e2 e3 e5 f e67 eC ebo
    subst e0 e1 e2 e3
    rw [if_neg (by simp)] at e5
    obtain ⟨ehs, ech⟩ := eC x R rfl
    have hxL := eR x List.mem_cons_self
    obtain ⟨hx6, hx2, hxn⟩ := hin x hxL
    have hcu := hc0.mt f
    have hm := lay_M hcu.1
    have fin : ∀ (u' : gW) (a4' : Int32) (st' : Option (List Nat)), Fr MT SC w u' → (∀ s, s < 6 → (gI u' 151 s).toInt = gx lims s ∧ (gI u' 154 s).toInt = heftF L s) → MH u' x → ((st' = none ∧ a4'.toInt = -5) ∨ ∃ y, st' = some y ∧ a4'.toInt = rk y ∧ y ∈ LL ∧ payA pu ti price y) → bst (payA pu ti price) rk R st' = bst (payA pu ti price) rk LL none →
        ok (f_M_least_b97 N rec 133 q1' q2' q3' a4' u') (fun r u => Fr MT SC w u ∧ r.toInt = res) := by
      intro u' a4' st' f' g67 ghs gbo gst
      have hL' := f'.lay hL
      have hm := lay_M hL'
      unfold f_M_least_b97
      simp only [ok_gd, ok_bd, ok_rr1, ok_nr0, ok_nr1, ok_ret, true_and, and_true, not_false_eq_true, sh_sI, sh_sR, sh_sL, gR_sI, gR_sL, gI_sR, gI_sL, sh_cI, gR_cI, hm]
      refine ok_call (c_nextHand hN hL' hlm (fun s h => (g67 s h).1) hl2 ghs hx2) ?_
      rintro r' v' ⟨f2, hnx⟩
      have f3 : Fr MT SC w v' := f'.tr (f2.up (by simp) (by simp))
      have g67' : ∀ s, s < 6 → (gI v' 151 s).toInt = gx lims s ∧ (gI v' 154 s).toInt = heftF L s := fun s hs => by rw [f2.i ⟨by decide, by simp⟩, f2.i ⟨by decide, by simp⟩]; exact g67 s hs
      refine IH _ ?_
      refine ⟨rfl, rfl, rfl, rfl, ?_, f3, g67', fun y hy => eR y (List.mem_cons_of_mem _ hy), fun y R' hR' => ?_, st', gst, gbo⟩
      · show r'.toInt = _
        cases R with
        | nil =>
          simp only [chn] at ech
          rcases hnx with ⟨y, h, -⟩ | ⟨-, h⟩
          · rw [ech] at h; cases h
          · rw [h, if_pos rfl]
        | cons y R' =>
          simp only [chn] at ech
          rcases hnx with ⟨y', h, h', -⟩ | ⟨h, -⟩
          · rw [h', if_neg (by simp)]
          · rw [ech.1] at h; cases h
      · subst hR'
        simp only [chn] at ech
        rcases hnx with ⟨y', h, -, h', -⟩ | ⟨h, -⟩
        · rw [ech.1] at h; cases h; exact ⟨h', ech.2⟩
        · rw [ech.1] at h; cases h
    show ok (f_M_least_b43 N rec 133 q1' q2' q3' a4 a5 u) _
    unfold f_M_least_b43
    refine ok_cdf (by rw [ti_eq, e5, ti_0]; decide) ?_
    simp only [ok_gd, hm, true_and]
    refine ok_call (c_mpays hN hcu ehs hx2 h1 h2' (by omega)) ?_
    rintro r u1 ⟨f1, hms, hr⟩
    have fu1 : Fr MT SC w u1 := f.tr (f1.up (by simp) (by simp))
    have g67 : ∀ s, s < 6 → (gI u1 151 s).toInt = gx lims s ∧ (gI u1 154 s).toInt = heftF L s := fun s hs => by rw [f1.i ⟨by decide, by simp⟩, f1.i ⟨by decide, by simp⟩]; exact e67 s hs
    have ghs := ehs.fr f1 ⟨by decide, by simp⟩
    have hcu1 := hc0.mt fu1
    have hm := lay_M hcu1.1
    rcases hr with ⟨hr, hPx, hbk⟩ | ⟨hr, hPx⟩
    · refine ok_cdf (by rw [ti_eq, hr, ti_0]; decide) ?_
      have hbk' : ∀ s, s < 6 → (gI u1 153 s).toInt = bx ti x price s ∧ 0 ≤ bx ti x price s ∧ bx ti x price s ≤ 999 := fun s hs => by
        have := bx_in hq2 hx2 hPx.1 hs
        exact ⟨hbk s hs, by omega, by omega⟩
      have hxv := hvl x hx2 hxn hPx.1
      have b74 : ∀ (z0 : Int32), z0.toInt = rk x → ok (f_M_least_b74 N rec 133 q1' q2' q3' a4 z0 u1) (fun r u => Fr MT SC w u ∧ r.toInt = res) := by
        intro z0 hz0
        have est2 : bst (payA pu ti price) rk R (stp (payA pu ti price) rk st x) = bst (payA pu ti price) rk LL none := est
        unfold f_M_least_b74 f_M_least_b88 f_M_least_b95
        rcases ebo with ⟨rfl, e6⟩ | ⟨y, rfl, e6, hyL, hyP⟩
        · rw [stp_0 hPx] at est2
          exact ok_cdt (by rw [ti_lt, e6, ti_0]; decide) (fin u1 z0 (some x) fu1 g67 ghs (Or.inr ⟨x, rfl, hz0, hxL, hPx⟩) est2)
        · obtain ⟨-, hy2, hyn⟩ := hin y hyL
          have hyv := hvl y hy2 hyn hyP.1
          refine ok_cdf (by rw [ti_lt, e6, ti_0]; omega) ?_
          rw [ok_cd]
          refine ⟨fun c => ?_, fun c => ?_⟩ <;> rw [ti_le, e6, hz0] at c
          · rw [stp_2 (by omega)] at est2
            exact fin u1 a4 (some y) fu1 g67 ghs (Or.inr ⟨y, rfl, e6, hyL, hyP⟩) est2
          · rw [stp_1 hPx (by omega)] at est2
            exact fin u1 z0 (some x) fu1 g67 ghs (Or.inr ⟨x, rfl, hz0, hxL, hPx⟩) est2
      rw [ok_cd]
      refine ⟨fun g => ?_, fun g => ?_⟩
      · simp only [ok_gd, hm, true_and]
        refine ok_call (c_MweightBehind hN hcu1 ghs hx2 h1 hbk' (fun s hs => (g67 s hs).2) hxn) ?_
        rintro r3 u3 ⟨rfl, hr3⟩
        exact b74 r3 (by rw [hr3, hrkW (h3.mp g)]; rfl)
      · simp only [ok_gd, hm, true_and]
        refine ok_call (c_McoinsBehind hN hcu1 hms hx2 h1 hbk') ?_
        rintro r3 u3 ⟨rfl, hr3⟩
        exact b74 r3 (by rw [hr3, hrkC (by cases wt; rfl; exact absurd (h3.mpr rfl) g)])
    · refine ok_cdt (by rw [ti_eq, hr, ti_0]) ?_
      refine fin u1 a4 st fu1 g67 ghs ebo ?_
      rw [← est]
      show _ = bst _ rk R (stp _ rk st x)
      rw [stp_no hPx]
  · rintro rec ⟨q0, q1', q2', q3', a4, a5, u⟩ ⟨e0, e1, e2, e3, e5, f, e67, eR, eC, st, est, ebo⟩
    simp only at e0 e1 e2 e3 e5 f e67 ebo
    subst e0 e1 e2 e3
    rw [if_pos trivial] at e5
    have est' : st = bst (payA pu ti price) rk LL none := est
    show ok (f_M_least_b43 N rec 133 q1' q2' q3' a4 a5 u) _
    unfold f_M_least_b43
    refine ok_cdt (by rw [ti_eq, e5, ti_0]) ?_
    rcases ebo with ⟨rfl, e6⟩ | ⟨y, rfl, e6, hyL, hyP⟩
    · exact ok_ret.mpr ⟨f, by rw [hl0 est'.symm]; exact e6⟩
    · exact ok_ret.mpr ⟨f, by rw [hl1 y est'.symm]; exact e6⟩
  · obtain ⟨t, ht, hch⟩ := hl_chn lims
    have eLL' : LL = [0, 0, 0, 0, 0, 0] :: t := by rw [← eLL, hLL, elims, ht, hlm]; rfl
    refine ⟨rfl, rfl, rfl, rfl, ?_, fs0, fun s hs => ⟨?_, (hl0' s hs).2.2⟩, fun y hy => hy, fun y R' hR' => ?_, none, rfl, Or.inl ⟨rfl, ti_n5⟩⟩
    · rw [eLL', if_neg (by simp)]; rfl
    · rw [(hl0' s hs).1, ← elims]; unfold gx; rw [l6f_g hs]
    · rw [eLL'] at hR'
      cases hR'
      rw [hlm] at hch
      exact ⟨⟨rfl, fun s hs => by rw [(hl0' s hs).2.1]; rcases in6 hs with rfl | rfl | rfl | rfl | rfl | rfl <;> rfl⟩, hch⟩
end LEASTM
section PLEAST
variable {N : Nat} {w : gW} {a1 a2 a3 : Int32}
theorem p_least (hN : 1000 ≤ N) (h : Sim w) : ok (f_X_least N 0 a1 a2 a3 w) (fun r w1 => ok (f_M_least N 133 a1 a2 a3 w1) (fun r' w2 => r = r' ∧ Sim w2)) := by
  obtain ⟨c, tp, b, kd, v, ob, ro, L, A, hx0⟩ := h.cx
  have hx := lay_X h.1
  have hm := lay_M h.1
  unfold f_X_least f_X_least_b0
  simp only [ok_gd, true_and, hx]
  refine ok_call hx0.xp ?_
  rintro r u ⟨rfl, hr⟩
  -- the model says -1
  have bad : (¬ (0 ≤ a1.toInt ∧ a1.toInt < (c : Int)) ∨ ¬ (0 ≤ a3.toInt ∧ a3.toInt ≤ 1)) → ok (f_M_least N 133 a1 a2 a3 u) (fun r' w2 => -1 = r' ∧ Sim w2) := by
    intro hb
    unfold f_M_least f_M_least_b0
    simp only [ok_gd, true_and, hm]
    refine ok_call hx0.mp ?_
    rintro r2 u2 ⟨rfl, hr2⟩
    rw [ok_cd]
    refine ⟨fun e => ok_ret.mpr ⟨rfl, h⟩, fun e => ?_⟩
    have e' := Classical.not_not.mp (fun z => e (hr2.z.mpr z))
    simp only [ok_gd, true_and, hm]
    refine ok_call c_Min ?_
    rintro r3 u3 ⟨rfl, hr3⟩
    rw [ti_0, ti_1a] at hr3
    refine ok_cdt (hr3.z.mpr (fun z => ?_)) (ok_ret.mpr ⟨rfl, h⟩)
    rcases hb with hb | hb
    · exact hb e'
    · exact hb z
  rcases hr with ⟨p, hp, ha, rfl⟩ | ⟨hr, rfl⟩
  · rw [ok_nr1, ok_cd]
    refine ⟨fun g => ?_, fun g => ?_⟩ <;> rw [ti_lt, ti_0] at g
    · exact ok_ret.mpr (bad (Or.inr (fun z => by have := z.1; omega)))
    rw [ok_cd]
    refine ⟨fun g2 => ?_, fun g2 => ?_⟩ <;> rw [ti_le, ti_1a] at g2
    · refine ok_call c_Xprice ?_
      rintro r2 u2 ⟨rfl, hr2⟩
      have mod : ∀ (Q : Int32 → gW → Prop) (u : gW), CX u c tp b kd v ob ro L A → (r2 = 0 → Q (-2) u) → (r2 ≠ 0 → ok (kl (f_M_layLimits N 133 a1 u) fun x13 w14 => f_M_least_l43 N 133 a1 a2 a3 (-5) 1 w14) Q) → ok (f_M_least N 133 a1 a2 a3 u) Q := by
        intro Q u hu q1 q2
        have hm := lay_M hu.1.1
        unfold f_M_least f_M_least_b0
        simp only [ok_gd, true_and, hm]
        refine ok_call hu.mp ?_
        rintro r3 u3 ⟨rfl, hr3⟩
        refine ok_cdf (fun e => by have := hr3.z.mp e; omega) ?_
        simp only [ok_gd, true_and, hm]
        refine ok_call c_Min ?_
        rintro r4 u4 ⟨rfl, hr4⟩
        rw [ti_0, ti_1a] at hr4
        refine ok_cdf (fun e => by have := hr4.z.mp e; omega) ?_
        simp only [ok_gd, true_and, hm]
        refine ok_call (c_Mprice hu.1.1) ?_
        rintro r5 u5 ⟨rfl, hr5⟩
        rw [ok_cd]
        refine ⟨fun e => ok_ret.mpr (q1 (hr2.z.mpr (hr5.z.mp e))), fun e => ?_⟩
        simp only [ok_gd, true_and, hm]
        exact q2 (fun z => e (hr5.z.mpr (hr2.z.mp z)))
      rw [ok_cd]
      refine ⟨fun e => ok_ret.mpr (mod _ u2 hx0 (fun _ => ⟨rfl, h⟩) (fun z => absurd e z)), fun e => ?_⟩
      have e' := Classical.not_not.mp (fun z => e (hr2.z.mpr z))
      have run : ∀ (z0 : Int32) (wt : Bool), (z0 = 0 ↔ wt = false) → (a3 = 0 ↔ wt = true) → ok (f_X_least_b53 N z0 a2 (ob p) 9 66 u2) (fun r w1 => ok (f_M_least N 133 a1 a2 a3 w1) (fun r' w2 => r = r' ∧ Sim w2)) := by
        intro z0 wt hz ha3
        unfold f_X_least_b53
        simp only [ok_gd, true_and, hx]
        refine ok_call (c_leastBehind hN (hx0.2.1.cp hp) (price := a2.toInt) rfl (by omega) hz) ?_
        rintro r3 u3 ⟨f3, hr3⟩
        have hu3 := hx0.rf (scRM f3).rF
        refine ok_ret.mpr (mod _ u3 hu3 (fun z => absurd z e) (fun _ => ?_))
        refine (c_MleastL hN (hu3.2.2.1.mp hp) ha (price := a2.toInt) rfl (by omega) ha3).mono ?_
        rintro r4 u4 ⟨f4, hr4⟩
        exact ⟨ti_eq.mpr (by rw [hr3, hr4]), hu3.1.rf (scRM (MT.st f4)).rF⟩
      simp only [ok_gd, ok_rr, true_and, hx]
      refine ⟨_, rfl, _, rfl, ?_⟩
      rw [ok_cd]
      refine ⟨fun e0 => ?_, fun e0 => ?_⟩
      · exact run 1 true ⟨fun z => absurd z (by decide), fun z => (by cases z)⟩ ⟨fun _ => rfl, fun _ => e0⟩
      · exact run 0 false ⟨fun _ => rfl, fun _ => rfl⟩ ⟨fun z => absurd z e0, fun z => (by cases z)⟩
    · exact ok_ret.mpr (bad (Or.inr (fun z => by have := z.2; omega)))
  · exact ok_ret.mpr (bad (Or.inl hr))
end PLEAST
