/-! ===== a payment in the class: the hand that is chosen ===== -/
/-- what the best so far is, in the memory -/
def bok (u : gW) (LL : List (List Nat)) (P : List Nat → Prop) (rk : List Nat → Int) (B : List Nat → Nat → Int) (a6 : Int64) (st : Option (List Nat)) : Prop :=
  (st = none → a6.toInt = 1000000000) ∧ ∀ y, st = some y → a6.toInt = rk y ∧ y ∈ LL ∧ P y ∧ ∀ s, s < 6 → (gI u 70 s).toInt = gx y s ∧ (gI u 71 s).toInt = B y s
theorem bok.c {u u' : gW} {LL : List (List Nat)} {P : List Nat → Prop} {rk : List Nat → Int} {B : List Nat → Nat → Int} {a6 : Int64} {st : Option (List Nat)} (h70 : ∀ k, gI u' 70 k = gI u 70 k) (h71 : ∀ k, gI u' 71 k = gI u 71 k) (h : bok u LL P rk B a6 st) : bok u' LL P rk B a6 st :=
  ⟨h.1, fun y hy => ⟨(h.2 y hy).1, (h.2 y hy).2.1, (h.2 y hy).2.2.1, fun s hs => by rw [h70, h71]; exact (h.2 y hy).2.2.2 s hs⟩⟩
theorem Fr.up2 {T U : List Nat} {C D : List (Nat × Nat)} {w u : gW} (h : Fr T C w u) (g : ∀ a ∈ T, a ∈ U) (e : ∀ c ∈ C, c ∈ D ∨ c.1 ∈ U) : Fr U D w u := ⟨h.1, fun a k q r => h.2.1 a k (fun z => q (g a z)) (fun z => (e _ z).elim r q), fun a k q => h.2.2.1 a k (fun z => q (g a z)), fun a k q r => h.2.2.2.1 a k (fun z => q (g a z)) (fun z => (e _ z).elim r q), h.2.2.2.2⟩
theorem adv_sc {w u v : gW} (f : Fr ST SC w u) (g : Fr [68] [(66, 8), (66, 9)] u v) : Fr ST SC w v := f.tr (g.up2 (by simp) (by simp))
theorem pay_sc {w u v : gW} (f : Fr ST SC w u) (g : Fr [69] [] u v) : Fr ST SC w v := f.tr (g.up (by simp) (by simp))
theorem std_sc {w u v : gW} (f : Fr ST SC w u) (g : Fr [68, 69] [(66, 8), (66, 9)] u v) : Fr ST SC w v := f.tr (g.up2 (by simp) (by simp))
/-- what choosing leaves behind -/
def chP (w : gW) (W o : Nat) (P : List Nat → Prop) (rk : List Nat → Int) (LL : List (List Nat)) (B : List Nat → Nat → Int) (r : Int32) (u : gW) : Prop :=
  Fr ST SC w u ∧ ((r.toInt = 0 ∧ bst P rk LL none = none) ∨ (r.toInt = 1 ∧ ∃ y, bst P rk LL none = some y ∧ y ∈ LL ∧ P y ∧ PR u W o ∧ HS u y ∧ ∀ s, s < 6 → (gI u 69 s).toInt = B y s))
section CHOOSE
variable {N W o p kd v pd tp s : Nat} {w : gW} {pu ti ro : Nat → Int} {L : List Cl} {x : List Nat} {price bar : Int}
set_option maxHeartbeats 1000000 in
theorem c_chooseL {lims : List Nat} {LL : List (List Nat)} {P : List Nat → Prop} {rk : List Nat → Int} {Q : Int32 → gW → Prop} {a3 a4 a5 : Int32} (hN : 1000 ≤ N) (hc : CP w W o p kd v pd tp pu ti ro L) (eLL : LL = hLL L pu ti p kd pd bar) (elims : lims = l6f (limC L pu ti p kd pd bar)) (eP : P = payA pu ti price) (erk : rk = rkF kd price (wgF L pu ti price))
    (h3 : a3.toInt = price) (hpr : 0 ≤ price ∧ price ≤ 500) (h4 : a4.toInt = ((LL.length : Nat) : Int)) (h5 : a5.toInt = if kd = 4 then 0 else 1) (hlen : LL.length ≤ 900)
    (hQ : ∀ (r : Int32) (u : gW), Fr ST SC w u → ((r.toInt = 0 ∧ bst P rk LL none = none) ∨ (r.toInt = 1 ∧ ∃ y, bst P rk LL none = some y ∧ y ∈ LL ∧ P y ∧ PR u W o ∧ HS u y ∧ ∀ s, s < 6 → (gI u 69 s).toInt = bx ti y price s)) → Q r u)
    (u0 : gW) (f0 : Fr ST SC w u0) (hp0 : PR u0 W o) (hs0 : HS u0 [0, 0, 0, 0, 0, 0]) (hl0 : ∀ s, s < 6 → (gI u0 67 s).toInt = gx lims s) (h70 : (gI u0 66 7).toInt = price) :
    ok (f_Pm_choose_l36 N 66 o a3 a4 a5 1000000000 0 u0) Q := by
  have hc0 := hc
  obtain ⟨-, hW, -, hp4, -, ⟨-, -, twf, tl, -, -⟩, ⟨-, -, o3, -⟩, q1, q2, -⟩ := hc
  have hq1 : ∀ s, s < 6 → 0 ≤ pu s ∧ pu s ≤ 99 := fun s h => (q1 s h).2
  have hq2 : ∀ s, s < 6 → 0 ≤ ti s ∧ ti s ≤ 99 := fun s h => (q2 s h).2
  have hin : ∀ y, y ∈ LL → y.length = 6 ∧ h2 y ∧ ∀ s, s < 6 → 0 ≤ pu s - gx y s := fun y hy => hLL_in twf tl (fun s h => (hq1 s h).1) (by rw [eLL] at hy; exact hy)
  have hlm : lims.length = 6 := by rw [elims]; rfl
  have hl2 : ∀ s, lims.getD s 0 ≤ 2 := fun s => by
    by_cases hs : s < 6
    · rw [elims, l6f_g hs]; exact limC_in twf s
    · rw [List.getD_eq_getElem?_getD, List.getElem?_eq_none (by omega)]; simp
  have hrk : ∀ y, y ∈ LL → price ≤ hsum y → -1000000 ≤ rk y ∧ rk y ≤ 2000000 := fun y hy h => by
    obtain ⟨-, g2, g3⟩ := hin y hy
    rw [erk]; exact rkF_in twf tl hq2 hq1 g2 g3 h
  have hPs : ∀ y, P y → price ≤ hsum y := fun y h => by rw [eP] at h; exact h.1
  unfold f_Pm_choose_l36
  refine itr_li (β := List Nat) (fun R q => q.1 = 66 ∧ q.2.1 = o ∧ q.2.2.1 = a3 ∧ q.2.2.2.1 = a4 ∧ q.2.2.2.2.1 = a5 ∧ q.2.2.2.2.2.2.1.toInt + (R.length : Int) = (LL.length : Int) ∧ 0 ≤ q.2.2.2.2.2.2.1.toInt ∧ Fr ST SC w q.2.2.2.2.2.2.2 ∧ (gI q.2.2.2.2.2.2.2 66 7).toInt = price ∧ PR q.2.2.2.2.2.2.2 W o ∧ (∀ s, s < 6 → (gI q.2.2.2.2.2.2.2 67 s).toInt = gx lims s) ∧ (∀ y ∈ R, y ∈ LL) ∧ (∀ y R', R = y :: R' → HS q.2.2.2.2.2.2.2 y ∧ chn lims y R') ∧ ∃ st, bst P rk R st = bst P rk LL none ∧ bok q.2.2.2.2.2.2.2 LL P rk (fun y s => bx ti y price s) q.2.2.2.2.2.1 st) ?_ ?_ LL N _ ?_ (by omega)
  · rintro rec x R ⟨q0, q1', q2', q3', q4', a6, a8, u⟩ ⟨e0, e1, e2, e3, e4, e8, e8', f, e7, epr, e67, eR, eC, st, est, ebo⟩ IH
    simp only at e0 e1 e2 e3 e4 e8 e8' f e7 epr e67 eC ebo
    subst e0 e1 e2 e3 e4
    simp only [List.length_cons] at e8
    obtain ⟨ehs, ech⟩ := eC x R rfl
    have hxL := eR x List.mem_cons_self
    obtain ⟨hx6, hx2, hxn⟩ := hin x hxL
    have hcu := hc0.sc f
    obtain ⟨p0, -, p1, p2, p3, p4, -, s68, s69, s70, s71⟩ := lay_P hcu.1
    have hsm := hx2.sum
    have ex8 := ehs.2.2.1
    have k9 : a8.toInt < 2147483647 := by omega
    have e8s : a8.toInt + 1 + (R.length : Int) = (LL.length : Int) := by omega
    have e8t : 0 ≤ a8.toInt + 1 := by omega
    -- on to the next hand
    have fin : ∀ (u' : gW) (a6' : Int64) (st' : Option (List Nat)), Fr ST SC w u' → (gI u' 66 7).toInt = price → PR u' W q1' → (∀ s, s < 6 → (gI u' 67 s).toInt = gx lims s) → HS u' x → bok u' LL P rk (fun y s => bx ti y price s) a6' st' → bst P rk R st' = bst P rk LL none →
        ok (f_Pm_choose_b135 N rec 66 q1' q2' q3' q4' a6' a8 u') Q := by
      intro u' a6' st' f' g7 gpr g67 ghs gbo gst
      have hL' := f'.lay hc0.1
      obtain ⟨p0, -⟩ := lay_P hL'
      unfold f_Pm_choose_b135
      simp only [ok_gd, ok_bd, ok_rr1, ok_nr0, ok_nr1, ok_ret, true_and, and_true, not_false_eq_true, sh_sI, sh_sR, sh_sL, gR_sI, gR_sL, gI_sR, gI_sL, sh_cI, gR_cI, p0]
      refine ok_call (c_advance hN hL' hlm g67 hl2 ghs hx2) ?_
      rintro - v' ⟨f2, hnx⟩
      simp only [ok_bd]
      refine IH _ ?_
      refine ⟨rfl, rfl, rfl, rfl, rfl, ?_, ?_, adv_sc f' f2, ?_, gpr.fr f2 (by decide) (by decide), fun s hs => ?_, fun y hy => eR y (List.mem_cons_of_mem _ hy), fun y R' hR' => ?_, st', gst, gbo.c (fun k => f2.i ⟨by decide, by simp⟩) (fun k => f2.i ⟨by decide, by simp⟩)⟩
      · show (a8 + 1).toInt + _ = _; rw [ti_add1 k9]; exact e8s
      · show 0 ≤ (a8 + 1).toInt; rw [ti_add1 k9]; exact e8t
      · show (gI v' 66 7).toInt = _; rw [f2.c (by decide)]; exact g7
      · show (gI v' 67 s).toInt = _; rw [f2.i ⟨by decide, by simp⟩]; exact g67 s hs
      · subst hR'
        simp only [chn] at ech
        exact ⟨(hnx y ech.1).1, ech.2⟩
    -- the hand that pays is ranked, and taken if it is better
    have step : ok (f_Pm_choose_b71 N rec 66 q1' q2' q3' q4' a6 a8 u) Q := by
      unfold f_Pm_choose_b71 f_Pm_choose_b72
      refine ok_cdt rfl ?_
      simp only [ok_gd, ok_bd, ok_rr1, ok_nr0, ok_nr1, ok_ret, true_and, and_true, not_false_eq_true, sh_sI, sh_sR, sh_sL, gR_sI, gR_sL, gI_sR, gI_sL, sh_cI, gR_cI, p0]
      refine ok_call (c_pays hN hcu epr ehs hx2 e7 (by omega)) ?_
      rintro r u1 ⟨f1, hr⟩
      have fu1 := pay_sc f f1
      have g7 : (gI u1 66 7).toInt = price := by rw [f1.i ⟨by decide, by simp⟩]; exact e7
      have gpr : PR u1 W q1' := epr.fr f1 (by decide) (by decide)
      have ghs : HS u1 x := ehs.fr f1 ⟨by decide, by simp⟩ (by decide) (by decide)
      have g67 : ∀ s, s < 6 → (gI u1 67 s).toInt = gx lims s := fun s hs => by rw [f1.i ⟨by decide, by simp⟩]; exact e67 s hs
      have gbo : bok u1 LL P rk (fun y s => bx ti y price s) a6 st := ebo.c (fun k => f1.i ⟨by decide, by simp⟩) (fun k => f1.i ⟨by decide, by simp⟩)
      rcases hr with ⟨hr, hP, hbk⟩ | ⟨hr, hP⟩
      · refine ok_cdf (by rw [ti_eq, hr, ti_0]; decide) ?_
        rw [← eP] at hP
        have hcu1 := hc0.sc fu1
        have hbk' : ∀ s, s < 6 → (gI u1 69 s).toInt = bx ti x price s ∧ 0 ≤ bx ti x price s ∧ bx ti x price s ≤ 999 := fun s hs => by
          have := bx_in hq2 hx2 (hPs x hP) hs
          exact ⟨hbk s hs, by omega, by omega⟩
        have rank : ok (v_rank N q1' 66 u1) (fun r u => u = u1 ∧ r.toInt = rk x) := by
          rw [erk]
          by_cases k4 : kd = 4
          · subst k4; exact c_rank_4 hN hcu1 gpr ghs hx2 hbk' hxn
          · exact c_rank_n hcu1 ghs hx2 g7 k4 _
        refine ok_call rank ?_
        rintro r2 u2 ⟨rfl, hr2⟩
        rw [ok_bd, ok_cd]
        refine ⟨fun c => ?_, fun c => ?_⟩
        · rw [lg_ge, hr2] at c
          refine fin u2 a6 st fu1 g7 gpr g67 ghs gbo ?_
          rw [← est]
          cases st with
          | none => have := gbo.1 rfl; have := (hrk x hxL (hPs x hP)).2; omega
          | some y =>
            have := (gbo.2 y rfl).1
            show bst P rk R (some y) = bst P rk R (stp P rk (some y) x)
            rw [stp_2 (by omega)]
        · rw [lg_ge, hr2] at c
          obtain ⟨p0, -, p1, p2, p3, p4, -, s68, s69, s70, s71⟩ := lay_P hcu1.1
          have w1 : Fr [70, 71] [] u2 (cI (cI u2 68 0 70 0 6) 69 0 71 0 6) := Fr_cI (Fr_cI Fr.rf (by simp)) (by simp)
          simp only [ok_gd, ok_bd, ok_rr1, ok_nr0, ok_nr1, ok_ret, true_and, and_true, not_false_eq_true, sh_sI, sh_sR, sh_sL, gR_sI, gR_sL, gI_sR, gI_sL, sh_cI, gR_cI, p0, p1, p2, p3, p4, s68, s69, s70, s71, show (0 : Int32).toNatClampNeg = 0 from rfl, show (6 : Int32).toNatClampNeg = 6 from rfl, Nat.zero_add, Nat.le_refl]
          refine fin _ r2 (some x) (fu1.tr (w1.up (by simp) (by simp))) (by rw [w1.i ⟨by decide, by simp⟩]; exact g7) (gpr.fr w1 (by decide) (by decide)) (fun s hs => by rw [w1.i ⟨by decide, by simp⟩]; exact g67 s hs) (ghs.fr w1 ⟨by decide, by simp⟩ (by decide) (by decide)) ⟨fun h => (by cases h), fun y hy => ?_⟩ ?_
          · cases hy
            refine ⟨hr2, hxL, hP, fun s hs => ⟨?_, ?_⟩⟩
            · rw [gI_cI, if_neg (fun z => absurd z.1 (by decide)), gI_cI, if_pos ⟨rfl, by omega, by omega⟩, Nat.zero_add, Nat.sub_zero]; exact ghs.2.1 s hs
            · rw [gI_cI, if_pos ⟨rfl, by omega, by omega⟩, Nat.zero_add, Nat.sub_zero, gI_cI, if_neg (fun z => absurd z.1 (by decide))]; exact hbk s hs
          · rw [← est]
            cases st with
            | none =>
              show _ = bst P rk R (stp P rk none x)
              rw [stp_0 hP]
            | some y =>
              have := (gbo.2 y rfl).1
              show _ = bst P rk R (stp P rk (some y) x)
              rw [stp_1 hP (by omega)]
      · refine ok_cdt (by rw [ti_eq, hr, ti_0]) ?_
        refine fin u1 a6 st fu1 g7 gpr g67 ghs gbo ?_
        rw [← est]
        show _ = bst P rk R (stp P rk st x)
        rw [stp_no (by rw [eP]; exact hP)]
    -- a hand that can't be it
    have pass : (¬ P x ∨ ∃ y, st = some y ∧ ¬ rk x < rk y) → ok (f_Pm_choose_b67 N rec 66 q1' q2' q3' q4' a6 a8 u) Q := by
      intro h
      unfold f_Pm_choose_b67 f_Pm_choose_b72
      refine ok_cdf (by decide) ?_
      refine fin u a6 st f e7 epr e67 ehs ebo ?_
      rw [← est]
      show _ = bst P rk R (stp P rk st x)
      rcases h with h | ⟨y, rfl, h⟩
      · rw [stp_no h]
      · rw [stp_2 h]
    show ok (f_Pm_choose_b36 N rec 66 q1' q2' q3' q4' a6 a8 u) Q
    unfold f_Pm_choose_b36
    refine ok_cdf (by rw [ti_le, h4]; omega) ?_
    simp only [ok_gd, ok_bd, ok_rr1, ok_nr0, ok_nr1, ok_ret, true_and, and_true, not_false_eq_true, sh_sI, sh_sR, sh_sL, gR_sI, gR_sL, gI_sR, gI_sL, sh_cI, gR_cI, p0]
    rw [ok_cd]
    refine ⟨fun c => ?_, fun c => ?_⟩
    · rw [ti_lt, ex8, h3] at c
      exact pass (Or.inl (fun z => absurd (hPs x z) (by omega)))
    · rw [ti_lt, ex8, h3] at c
      rw [ok_cd]
      refine ⟨fun _ => step, fun d => ?_⟩
      rw [ti_eq, h5, ti_0] at d
      have k4 : kd ≠ 4 := fun z => d (by rw [if_pos z])
      refine ok_call (c_rank_n hcu ehs hx2 e7 k4 (wgF L pu ti price)) ?_
      rintro r2 u2 ⟨rfl, hr2⟩
      rw [← erk] at hr2
      rw [ok_bd, ok_cd]
      refine ⟨fun _ => step, fun g => ?_⟩
      rw [lg_lt, hr2] at g
      refine pass ?_
      cases st with
      | none => have := ebo.1 rfl; have := (hrk x hxL (by omega)).2; omega
      | some y => have := (ebo.2 y rfl).1; exact Or.inr ⟨y, rfl, by omega⟩
  · rintro rec ⟨q0, q1', q2', q3', q4', a6, a8, u⟩ ⟨e0, e1, e2, e3, e4, e8, e8', f, e7, epr, e67, eR, eC, st, est, ebo⟩
    simp only at e0 e1 e2 e3 e4 e8 e8' f e7 epr e67 eC ebo
    subst e0 e1 e2 e3 e4
    simp only [List.length_nil] at e8
    obtain ⟨p0, -⟩ := lay_P (f.lay hc0.1)
    show ok (f_Pm_choose_b36 N rec 66 q1' q2' q3' q4' a6 a8 u) Q
    unfold f_Pm_choose_b36
    refine ok_cdt (by rw [ti_le, h4]; omega) ?_
    have est' : st = bst P rk LL none := est
    rw [ok_bd, ok_cd]
    refine ⟨fun c => ?_, fun c => ?_⟩
    · rw [lg_eq, tl_huge] at c
      refine ok_ret.mpr (hQ _ _ f (Or.inl ⟨ti_0, ?_⟩))
      cases st with
      | none => exact est'.symm
      | some y => have h1 := ebo.2 y rfl; have := (hrk y h1.2.1 (hPs y h1.2.2.1)).2; omega
    · rw [lg_eq, tl_huge] at c
      cases st with
      | none => exact absurd (ebo.1 rfl) c
      | some y =>
        obtain ⟨h1, h2, h3, h4⟩ := ebo.2 y rfl
        obtain ⟨y6, y2, -⟩ := hin y h2
        simp only [ok_gd, ok_bd, ok_rr1, ok_nr0, ok_nr1, ok_ret, true_and, and_true, not_false_eq_true, sh_sI, sh_sR, sh_sL, gR_sI, gR_sL, gI_sR, gI_sL, sh_cI, gR_cI, p0]
        refine ok_call (c_stand hN (f.lay hc0.1) y6 y2 h4) ?_
        rintro - v' ⟨f2, ghs, gb⟩
        exact ok_ret.mpr (hQ _ _ (std_sc f f2) (Or.inr ⟨ti_1, y, est'.symm, h2, h3, epr.fr f2 (by decide) (by decide), ghs, gb⟩))
  · obtain ⟨t, ht, hch⟩ := hl_chn lims
    have eLL' : LL = [0, 0, 0, 0, 0, 0] :: t := by rw [eLL, hLL, ← elims, ht, hlm]; rfl
    refine ⟨rfl, rfl, rfl, rfl, rfl, ?_, ?_, f0, h70, hp0, hl0, fun y hy => hy, fun y R' hR' => ?_, none, rfl, fun _ => tl_huge, fun y hy => by cases hy⟩
    · show (0 : Int32).toInt + _ = _; rw [ti_0, Int.zero_add]
    · show 0 ≤ (0 : Int32).toInt; rw [ti_0]; decide
    · rw [eLL'] at hR'
      cases hR'
      rw [hlm] at hch
      exact ⟨hs0, hch⟩
theorem c_choose {a3 : Int32} (hN : 1000 ≤ N) (hc : CP w W o p kd v pd tp pu ti ro L) (h3 : a3.toInt = price) (hpr : 0 ≤ price ∧ price ≤ 500) :
    ok (f_Pm_choose N 66 W o a3 w) (chP w W o (payA pu ti price) (rkF kd price (wgF L pu ti price)) (hLL L pu ti p kd pd (barF kd v pd ro)) (fun y s => bx ti y price s)) := by
  have hc' := hc
  obtain ⟨hL, -, -, -, -, ⟨-, -, twf, -⟩, -⟩ := hc'
  obtain ⟨p0, -⟩ := lay_P hL
  have hlen : (hLL L pu ti p kd pd (barF kd v pd ro)).length ≤ 900 := by
    rw [hLL, hl_len, ← pp_6]; exact Nat.le_trans (pp_in (fun s => limC_in twf s) 6) (by decide)
  unfold f_Pm_choose f_Pm_choose_b0
  simp only [ok_gd, ok_bd, ok_rr1, ok_nr0, ok_nr1, ok_ret, true_and, and_true, not_false_eq_true, sh_sI, sh_sR, sh_sL, gR_sI, gR_sL, gI_sR, gI_sL, sh_cI, gR_cI, p0]
  refine ok_call (c_begin1 hN hc (Or.inr ⟨ti_1, rfl⟩)) ?_
  rintro r u ⟨f, epr, ehs, e67, er⟩
  obtain ⟨p0, -⟩ := lay_P (f.lay hL)
  simp only [ok_gd, ok_bd, ok_rr1, ok_nr0, ok_nr1, ok_ret, true_and, and_true, not_false_eq_true, sh_sI, sh_sR, sh_sL, gR_sI, gR_sL, gI_sR, gI_sL, sh_cI, gR_cI, p0]
  have f1 : Fr [] [(66, 7)] u (sI u 66 7 a3) := Fr_sI Fr.rf (by simp)
  have f2 : Fr ST SC w (sI u 66 7 a3) := f.tr (f1.up2 (by simp) (by simp))
  refine ok_call (c_thinks (hc.sc f2)) ?_
  rintro r1 u1 ⟨rfl, hr1⟩
  have er' : r.toInt = (((hLL L pu ti p kd pd (barF kd v pd ro)).length : Nat) : Int) := by rw [er, hLL, hl_len]
  have go : ∀ a5 : Int32, a5.toInt = (if kd = 4 then 0 else 1) → ok (f_Pm_choose_l36 N 66 o a3 r a5 1000000000 0 (sI u 66 7 a3)) (chP w W o (payA pu ti price) (rkF kd price (wgF L pu ti price)) (hLL L pu ti p kd pd (barF kd v pd ro)) (fun y s => bx ti y price s)) := fun a5 h5 =>
    c_chooseL hN hc rfl rfl rfl rfl h3 hpr er' h5 hlen (fun _ _ f h => ⟨f, h⟩) _ f2 (epr.fr f1 (by decide) (by decide)) (ehs.fr f1 ⟨by simp, by simp⟩ (by decide) (by decide)) (fun s hs => by rw [f1.i ⟨by simp, by simp⟩]; exact e67 s hs) (by rw [gI_eq]; exact h3)
  rw [ok_cd]
  refine ⟨fun c => ?_, fun c => ?_⟩
  · rw [ti_eq, hr1, ti_0] at c
    refine go 1 ?_
    by_cases k4 : kd = 4
    · rw [if_pos k4] at c; omega
    · rw [if_neg k4]; rfl
  · rw [ti_eq, hr1, ti_0] at c
    refine go 0 ?_
    by_cases k4 : kd = 4
    · rw [if_pos k4]; rfl
    · rw [if_neg k4] at c; omega
end CHOOSE
