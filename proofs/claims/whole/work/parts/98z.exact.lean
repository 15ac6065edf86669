/-! ===== prices that can be paid exactly: the model; exactly =====  -/
section EXM
variable {N p kd v pd b s : Nat} {w : gW} {pu ti ro : Nat → Int} {L : List Cl} {x : List Nat} {a1 a2 a3 : Int32} {price : Int}
set_option maxRecDepth 20000 in
theorem lay_E (h : Lay w) : sh w 133 = (12, 0) ∧ gR w 133 40 = some 160 ∧ sh w 160 = (53, 61) := ⟨h.1 133 (by decide), h.2.1 (133, 40, 160) (by decide), h.1 160 (by decide)⟩
/-- the model's row of what can be paid exactly -/
def exI (u : gW) (st : Nat → Bool) : Prop := ∀ j, j ≤ 60 → (gI u 160 j).toInt = (((st j).toNat : Nat) : Int)
theorem exI.fr {u z : gW} {T : List Nat} {C : List (Nat × Nat)} {st : Nat → Bool} (f : Fr T C u z) (h : oP T C 160) (q : exI u st) : exI z st := fun j hj => by rw [f.i h]; exact q j hj
theorem sumT_in {st : Nat → Bool} : ∀ k, sumT (fun j => (st j).toNat) k ≤ k := by
  intro k
  induction k with
  | zero => exact Nat.le_refl _
  | succ k ih =>
    have : (st k).toNat ≤ 1 := by cases st k <;> decide
    simp only [sumT]; omega
theorem c_exCount {st : Nat → Bool} (hN : 1000 ≤ N) (hL : Lay w) (q : exI w st) (h0 : st 0 = false) : ok (f_M_exactly_l94 N 133 0 1 w) (fun r u => u = w ∧ r.toInt = ((sumT (fun j => (st j).toNat) 61 : Nat) : Int)) := by
  have hx := lay_E hL
  unfold f_M_exactly_l94
  refine itr_up (fun k q => q.1 = 133 ∧ q.2.2.2 = w ∧ q.2.2.1.toInt = ((k + 1 : Nat) : Int) ∧ q.2.1.toInt = ((sumT (fun j => (st j).toNat) (k + 1) : Nat) : Int)) 60 ?_ ?_ N 0 _ (by omega) ?_ (by omega)
  · rintro rec k ⟨b0, a3, a4, u⟩ hk ⟨e0, e1, e2, e3⟩ IH
    simp only at e0 e1 e2 e3
    subst e0 e1
    have k9 : a4.toInt < 2147483647 := by omega
    have b1 := sumT_in (st := st) (k + 1)
    have k8 : a3.toInt < 2147483647 := by omega
    have n1 := nat_of e2
    have g1 := ix_of (m := 61) e2 (by omega)
    rw [n1] at g1
    have hq := q (k + 1) (by omega)
    have e2s : a4.toInt + 1 = ((k + 1 + 1 : Nat) : Int) := by omega
    show ok (f_M_exactly_b94 N rec 133 a3 a4 u) _
    unfold f_M_exactly_b94
    refine ok_cdf (by rw [ti_le, e2, ti_61]; omega) ?_
    simp only [ok_gd, ok_rr, ok_bd, true_and, hx, n1, g1, not_false_eq_true]
    refine ⟨_, rfl, ?_⟩
    simp only [ok_gd, ok_bd, true_and, hx, n1, g1, not_false_eq_true]
    rw [ok_cd]
    refine ⟨fun c => ?_, fun c => ?_⟩ <;> rw [ti_eq, hq, ti_0] at c
    · simp only [ok_bd]
      refine IH _ ⟨rfl, rfl, ?_, ?_⟩
      · show (a4 + 1).toInt = _; rw [ti_add1 k9]; exact e2s
      · show (a3 + 0).toInt = _
        have e : a3 + 0 = a3 := by simp
        have ec : (st (k + 1)).toNat = 0 := by omega
        rw [e, e3]; show _ = ((sumT _ (k + 1) + (st (k + 1)).toNat : Nat) : Int); rw [ec]; rfl
    · simp only [ok_bd]
      refine IH _ ⟨rfl, rfl, ?_, ?_⟩
      · show (a4 + 1).toInt = _; rw [ti_add1 k9]; exact e2s
      · show (a3 + 1).toInt = _
        have ec : (st (k + 1)).toNat = 1 := by cases h : st (k + 1); rw [h] at c; exact absurd rfl c; rfl
        rw [ti_add1 k8, e3]; show _ = ((sumT _ (k + 1) + (st (k + 1)).toNat : Nat) : Int); rw [ec]; omega
  · rintro rec ⟨b0, a3, a4, u⟩ ⟨e0, e1, e2, e3⟩
    simp only at e0 e1 e2 e3
    subst e0 e1
    show ok (f_M_exactly_b94 N rec 133 a3 a4 u) _
    unfold f_M_exactly_b94
    exact ok_cdt (by rw [ti_le, e2, ti_61]; decide) (ok_ret.mpr ⟨rfl, e3⟩)
  · exact ⟨rfl, rfl, rfl, by show (0 : Int32).toInt = ((0 + (st 0).toNat : Nat) : Int); rw [h0]; rfl⟩
theorem nar_or {a b : Int32} {c d : Bool} (ha : a.toInt = ((c.toNat : Nat) : Int)) (hb : b.toInt = ((d.toNat : Nat) : Int)) : (vp_nar .boolean (a ||| b)).toInt = (((c || d).toNat : Nat) : Int) := by
  have e : ∀ (x : Int32) (y : Bool), x.toInt = ((y.toNat : Nat) : Int) → x = if y then 1 else 0 := fun x y h => by
    cases y
    · exact ti_eq.mpr h
    · exact ti_eq.mpr h
  rw [e a c ha, e b d hb]
  cases c <;> cases d <;> rfl
set_option maxHeartbeats 1000000 in
theorem c_MexL (hN : 1000 ≤ N) (hc : MP w p kd v pd b pu ti ro L) (h1 : a1.toInt = (p : Int)) :
    ok (kl (f_M_layLimits N 133 a1 w) fun x5 w6 => f_M_exactly_l17 N 133 a1 0 w6) (fun r u => Fr ST SC w u ∧ r.toInt = ((exN L p kd pd pu ti : Nat) : Int)) := by
  have hc0 := hc
  obtain ⟨hL, hv, hwr, hpd, hp4, ⟨g1, g2, g3, g4, g5⟩, q1, q2, q3⟩ := hc
  obtain ⟨tl, -, twf, -⟩ := hv
  have hq1 : ∀ s, s < 6 → 0 ≤ pu s ∧ pu s ≤ 99 := fun s h => (q1 s h).2
  have hq2 : ∀ s, s < 6 → 0 ≤ ti s ∧ ti s ≤ 99 := fun s h => (q2 s h).2
  unfold exN
  generalize eLL : hLL L pu ti p kd pd (-1) = LL
  generalize elims : l6f (limC L pu ti p kd pd (-1)) = lims
  have hin : ∀ y, y ∈ LL → y.length = 6 ∧ h2 y ∧ ∀ s, s < 6 → 0 ≤ pu s - gx y s := fun y hy => hLL_in twf tl (fun s h => (hq1 s h).1) (by rw [← eLL] at hy; exact hy)
  have hlm : lims.length = 6 := by rw [← elims]; rfl
  have hl2 : ∀ s, lims.getD s 0 ≤ 2 := fun s => by
    by_cases hs : s < 6
    · rw [← elims, l6f_g hs]; exact limC_in twf s
    · rw [List.getD_eq_getElem?_getD, List.getElem?_eq_none (by omega)]; simp
  have hlen : LL.length ≤ 900 := by
    rw [← eLL, hLL, hl_len, ← pp_6]; exact Nat.le_trans (pp_in (fun s => limC_in twf s) 6) (by decide)
  refine ok_call (c_layLimits hN hc0 h1) ?_
  rintro - u0 ⟨f0, hl0'⟩
  have fs0 : Fr ST SC w u0 := f0.up (by simp) (by simp)
  -- all are put out
  unfold f_M_exactly_l17
  refine itr_up (fun k q => q.1 = 133 ∧ q.2.1 = a1 ∧ q.2.2.1.toInt = ((k : Nat) : Int) ∧ Fr [160] [] u0 q.2.2.2 ∧ ∀ j, j < k → (gI q.2.2.2 160 j).toInt = 0) 61 ?_ ?_ N 0 _ (by omega) ?_ (by omega)
  · rintro rec k ⟨b0, b1, a2, u⟩ hk ⟨e0, e1, e2, f, e3⟩ IH
    simp only at e0 e1 e2 f e3
    subst e0 e1
    have hx := lay_E ((fs0.tr (f.up (by simp) (by simp))).lay hL)
    have k9 : a2.toInt < 2147483647 := by omega
    have n1 := nat_of e2
    have g1 := ix_of (m := 61) e2 (by omega)
    rw [n1] at g1
    have e2s : a2.toInt + 1 = ((k + 1 : Nat) : Int) := by omega
    show ok (f_M_exactly_b17 N rec 133 b1 a2 u) _
    unfold f_M_exactly_b17
    refine ok_cdf (by rw [ti_le, e2, ti_61]; omega) ?_
    simp only [ok_gd, ok_rr, ok_bd, true_and, hx, n1, g1, not_false_eq_true]
    refine ⟨_, rfl, ?_⟩
    simp only [ok_gd, ok_bd, true_and, hx, n1, g1, not_false_eq_true]
    refine IH _ ⟨rfl, rfl, ?_, Fr_sI f (by simp), fun j hj => ?_⟩
    · show (a2 + 1).toInt = _; rw [ti_add1 k9]; exact e2s
    · show (gI (sI u 160 k _) 160 j).toInt = 0
      rw [gI_sI]
      by_cases e : j = k
      · rw [if_pos ⟨rfl, e⟩]; rfl
      · rw [if_neg (fun z => e z.2)]; exact e3 j (by omega)
  · rintro rec ⟨b0, b1, a2, u1⟩ ⟨e0, e1, e2, f, e3⟩
    simp only at e0 e1 e2 f e3
    subst e0 e1
    show ok (f_M_exactly_b17 N rec 133 b1 a2 u1) _
    unfold f_M_exactly_b17
    refine ok_cdt (by rw [ti_le, e2, ti_61]; decide) ?_
    have fs1 : Fr ST SC w u1 := fs0.tr (f.up (by simp) (by simp))
    unfold f_M_exactly_l38
    refine itr_li (β := List Nat) (fun R q => q.1 = 133 ∧ q.2.1 = b1 ∧ q.2.2.1.toInt = (if R = [] then 0 else 1) ∧ Fr ST SC w q.2.2.2 ∧ (∀ s, s < 6 → (gI q.2.2.2 151 s).toInt = gx lims s) ∧ (∀ y ∈ R, y ∈ LL) ∧ (∀ y R', R = y :: R' → MH q.2.2.2 y ∧ chn lims y R') ∧ ∃ st, exA pu ti R st = exA pu ti LL (fun _ => false) ∧ st 0 = false ∧ exI q.2.2.2 st) ?_ ?_ LL N _ ?_ (by omega)
    · rintro rec x R ⟨q0, q1', a3, u⟩ ⟨e0, e1, e5, f, e67, eR, eC, st, est, est0, ebo⟩ IH
      simp only at e0 e1 e5 f e67 eC ebo
      subst e0 e1
      rw [if_neg (by simp)] at e5
      obtain ⟨ehs, ech⟩ := eC x R rfl
      have hxL := eR x List.mem_cons_self
      obtain ⟨hx6, hx2, hxn⟩ := hin x hxL
      have hsm := hx2.sum
      have hcu := hc0.sc f
      have hm := lay_M hcu.1
      have est2 : exA pu ti R (exs pu ti st x) = exA pu ti LL (fun _ => false) := est
      have fin : ∀ (u' : gW) (st' : Nat → Bool), Fr ST SC w u' → (∀ s, s < 6 → (gI u' 151 s).toInt = gx lims s) → MH u' x → exI u' st' → st' 0 = false → exA pu ti R st' = exA pu ti LL (fun _ => false) →
          ok (f_M_exactly_b81 N rec 133 q1' u') (fun r u => Fr ST SC w u ∧ r.toInt = ((sumT (fun j => (exA pu ti LL (fun _ => false) j).toNat) 61 : Nat) : Int)) := by
        intro u' st' f' g67 ghs gbo gst0 gst
        have hL' := f'.lay hL
        have hm := lay_M hL'
        unfold f_M_exactly_b81
        simp only [ok_gd, ok_bd, ok_rr1, ok_nr0, ok_nr1, ok_ret, true_and, and_true, not_false_eq_true, sh_sI, sh_sR, sh_sL, gR_sI, gR_sL, gI_sR, gI_sL, sh_cI, gR_cI, hm]
        refine ok_call (c_nextHand hN hL' hlm g67 hl2 ghs hx2) ?_
        rintro r' v' ⟨f2, hnx⟩
        have f3 : Fr ST SC w v' := f'.tr (f2.up (by simp) (by simp))
        refine IH _ ?_
        refine ⟨rfl, rfl, ?_, f3, fun s hs => by rw [f2.i ⟨by decide, by simp⟩]; exact g67 s hs, fun y hy => eR y (List.mem_cons_of_mem _ hy), fun y R' hR' => ?_, st', gst, gst0, gbo.fr f2 ⟨by decide, by simp⟩⟩
        · show r'.toInt = _
          cases R with
          | nil =>
            simp only [chn] at ech
            rcases hnx with ⟨y, h, -⟩ | ⟨-, h⟩
            · rw [ech] at h; cases h
            · rw [h, if_pos rfl]
          | cons y R' =>
            simp only [chn] at ech
            rcases hnx with ⟨y', h, h', -⟩ | ⟨h, -⟩
            · rw [h', if_neg (by simp)]
            · rw [ech.1] at h; cases h
        · subst hR'
          simp only [chn] at ech
          rcases hnx with ⟨y', h, -, h', -⟩ | ⟨h, -⟩
          · rw [ech.1] at h; cases h; exact ⟨h', ech.2⟩
          · rw [ech.1] at h; cases h
      show ok (f_M_exactly_b38 N rec 133 q1' a3 u) _
      unfold f_M_exactly_b38
      refine ok_cdf (by rw [ti_eq, e5, ti_0]; decide) ?_
      simp only [ok_gd, hm, true_and]
      refine ok_call (c_laySum hN hcu.1 hcu.2.2.1 ehs hx2) ?_
      rintro - u2 ⟨f2, hms⟩
      have fs2 : Fr ST SC w u2 := f.tr (f2.up (by simp) (by simp))
      have ehs2 := ehs.fr f2 ⟨by simp, by simp⟩
      have ebo2 := ebo.fr f2 ⟨by simp, by simp⟩
      have e672 : ∀ s, s < 6 → (gI u2 151 s).toInt = gx lims s := fun s hs => by rw [f2.i ⟨by simp, by simp⟩]; exact e67 s hs
      have hcu2 := hc0.sc fs2
      have hm2 := lay_M hcu2.1
      have he2 := lay_E hcu2.1
      simp only [ok_gd, ok_bd, hm2, true_and]
      refine ok_call c_Min ?_
      rintro r3 u3 ⟨rfl, hr3⟩
      have t60 : (60 : Int32).toInt = 60 := rfl
      rw [ti_1, t60, hms.1] at hr3
      rw [ok_cd]
      refine ⟨fun g => ?_, fun g => ?_⟩
      · have g' := hr3.z.mp g
        rw [exs_no (fun j z => by have := z.1; have := z.2.1; have := z.2.2.1; omega)] at est2
        exact fin u3 st fs2 e672 ehs2 ebo2 est0 est2
      have g' := Classical.not_not.mp (fun z => g (hr3.z.mpr z))
      obtain ⟨k, hk⟩ : ∃ k : Nat, hsum x = (k : Int) := ⟨(hsum x).toNat, by omega⟩
      have e32 : (gI u3 133 32).toInt = (k : Int) := by rw [hms.1, hk]
      have n1 := nat_of e32
      have i1 := ix_of (m := 61) e32 (by omega)
      rw [n1] at i1
      simp only [ok_gd, ok_rr, ok_bd, true_and, he2, n1, i1, not_false_eq_true]
      refine ⟨_, rfl, ?_⟩
      simp only [ok_gd, ok_bd, true_and, he2, n1, i1, not_false_eq_true]
      refine ok_call (c_mpays (price := hsum x) hN hcu2 ehs2 hx2 h1 hms.1 (by omega)) ?_
      rintro r4 u4 ⟨f4, -, hr4⟩
      have fs4 : Fr ST SC w u4 := fs2.tr (f4.up (by simp) (by simp))
      have he4 := lay_E (fs4.lay hL)
      have f5 : Fr [160] [] u4 (sI u4 160 k (vp_nar .boolean (gI u3 160 k ||| r4))) := Fr_sI Fr.rf (by simp)
      simp only [ok_gd, ok_bd, true_and, he4, n1, i1, not_false_eq_true]
      have go : ∀ (d : Bool) (st' : Nat → Bool), r4.toInt = ((d.toNat : Nat) : Int) → st' = (fun j => st j || (decide (k = j) && d)) → exA pu ti R st' = exA pu ti LL (fun _ => false) → ok (f_M_exactly_b81 N rec 133 q1' (sI u4 160 k (vp_nar .boolean (gI u3 160 k ||| r4)))) (fun r u => Fr ST SC w u ∧ r.toInt = ((sumT (fun j => (exA pu ti LL (fun _ => false) j).toNat) 61 : Nat) : Int)) := by
        intro d st' hd hst' est'
        refine fin _ st' (fs4.tr (f5.up (by simp) (by simp))) (fun s hs => by rw [f5.i ⟨by decide, by simp⟩, f4.i ⟨by decide, by simp⟩]; exact e672 s hs) ((ehs2.fr f4 ⟨by decide, by simp⟩).fr f5 ⟨by decide, by simp⟩) (fun j hj => ?_) ?_ est'
        · rw [gI_sI, hst']
          by_cases e : j = k
          · subst e
            rw [if_pos ⟨rfl, rfl⟩]
            show _ = (((st j || (decide (j = j) && d)).toNat : Nat) : Int)
            rw [decide_eq_true rfl, Bool.true_and]
            exact nar_or (ebo2 j hj) hd
          · rw [if_neg (fun z => e z.2), f4.i ⟨by decide, by simp⟩]
            show _ = (((st j || (decide (k = j) && d)).toNat : Nat) : Int)
            rw [decide_eq_false (fun z => e z.symm), Bool.false_and, Bool.or_false]
            exact ebo2 j hj
        · rw [hst']
          show (st 0 || (decide (k = 0) && d)) = false
          rw [est0, decide_eq_false (by omega)]; rfl
      rcases hr4 with ⟨hr4, hP, -⟩ | ⟨hr4, hP⟩
      · rw [exs_yes (k := k) ⟨hk, by omega, by omega, hP⟩] at est2
        exact go true _ (by rw [hr4]; rfl) (by funext j; rw [Bool.and_true]) est2
      · rw [exs_no (fun j z => hP z.2.2.2)] at est2
        exact go false _ (by rw [hr4]; rfl) (by funext j; rw [Bool.and_false, Bool.or_false]) est2
    · rintro rec ⟨q0, q1', a3, u⟩ ⟨e0, e1, e5, f, e67, eR, eC, st, est, est0, ebo⟩
      simp only at e0 e1 e5 f e67 ebo
      subst e0 e1
      rw [if_pos trivial] at e5
      have est' : st = exA pu ti LL (fun _ => false) := est
      show ok (f_M_exactly_b38 N rec 133 q1' a3 u) _
      unfold f_M_exactly_b38
      refine ok_cdt (by rw [ti_eq, e5, ti_0]) ((c_exCount hN (f.lay hL) ebo est0).mono ?_)
      rintro r z ⟨rfl, hr⟩
      exact ⟨f, by rw [hr, est']⟩
    · obtain ⟨t, ht, hch⟩ := hl_chn lims
      have eLL' : LL = [0, 0, 0, 0, 0, 0] :: t := by rw [← eLL, hLL, elims, ht, hlm]; rfl
      refine ⟨rfl, rfl, ?_, fs1, fun s hs => ?_, fun y hy => hy, fun y R' hR' => ?_, (fun _ => false), rfl, rfl, fun j hj => e3 j (by omega)⟩
      · rw [eLL', if_neg (by simp)]; rfl
      · show (gI u1 151 s).toInt = _
        rw [f.i ⟨by decide, by simp⟩, (hl0' s hs).1, ← elims]; unfold gx; rw [l6f_g hs]
      · rw [eLL'] at hR'
        cases hR'
        rw [hlm] at hch
        exact ⟨⟨rfl, fun s hs => by show (gI u1 152 s).toInt = _; rw [f.i ⟨by decide, by simp⟩, (hl0' s hs).2.1]; rcases in6 hs with rfl | rfl | rfl | rfl | rfl | rfl <;> rfl⟩, hch⟩
  · exact ⟨rfl, rfl, rfl, Fr.rf, fun j hj => by omega⟩
end EXM
section PEXACT
variable {N : Nat} {w : gW} {a1 : Int32}
theorem p_exactly (hN : 1000 ≤ N) (h : Sim w) : ok (f_X_exactly N 0 a1 w) (fun r w1 => ok (f_M_exactly N 133 a1 w1) (fun r' w2 => r = r' ∧ Sim w2)) := by
  obtain ⟨c, tp, b, kd, v, ob, ro, L, A, hx0⟩ := h.cx
  have hx := lay_X h.1
  unfold f_X_exactly f_X_exactly_b0
  simp only [ok_gd, true_and, hx]
  refine ok_call hx0.xp ?_
  rintro r u ⟨rfl, hr⟩
  have hm := lay_M h.1
  rcases hr with ⟨p, hp, ha, rfl⟩ | ⟨hr, rfl⟩
  · rw [ok_nr1]
    simp only [ok_gd, ok_rr, true_and, hx]
    refine ⟨_, rfl, _, rfl, ?_⟩
    simp only [ok_gd, true_and, hx]
    refine ok_call (c_exactPrices hN (hx0.2.1.cp hp)) ?_
    rintro r3 u3 ⟨f3, hr3⟩
    have hu3 := hx0.rf (scRM f3).rF
    have hm := lay_M hu3.1.1
    refine ok_ret.mpr ?_
    unfold f_M_exactly f_M_exactly_b0
    simp only [ok_gd, true_and, hm]
    refine ok_call hu3.mp ?_
    rintro r2 u2 ⟨rfl, hr2⟩
    refine ok_cdf (fun e => by have := hr2.z.mp e; omega) ?_
    simp only [ok_gd, true_and, hm]
    refine (c_MexL hN (hu3.2.2.1.mp hp) ha).mono ?_
    rintro r4 u4 ⟨f4, hr4⟩
    exact ⟨ti_eq.mpr (by rw [hr3, hr4]), hu3.1.rf (scRM f4).rF⟩
  · refine ok_ret.mpr ?_
    unfold f_M_exactly f_M_exactly_b0
    simp only [ok_gd, true_and, hm]
    refine ok_call hx0.mp ?_
    rintro r2 u2 ⟨rfl, hr2⟩
    exact ok_cdt (hr2.z.mpr hr) (ok_ret.mpr ⟨rfl, h⟩)
end PEXACT
