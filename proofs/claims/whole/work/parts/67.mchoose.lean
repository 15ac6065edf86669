/-! ===== a payment in the model: the hand that is chosen; it is made =====  -/
/-- how the model ranks -/
def bmF (kd : Nat) (price : Int) (wg : List Nat → Int) (x : List Nat) : Int := if kd = 1 ∧ hsum x = price then - hcnt x else bdF kd wg x
abbrev MT : List Nat := [150, 151, 152, 153, 154, 155, 156]
theorem MT.st {w u : gW} (f : Fr MT SC w u) : Fr ST SC w u := f.up (by simp) (by simp)
theorem MP.mt {w u : gW} {p kd v pd b : Nat} {pu ti ro : Nat → Int} {L : List Cl} (h : MP w p kd v pd b pu ti ro L) (f : Fr MT SC w u) : MP u p kd v pd b pu ti ro L := h.sc (MT.st f)
section MCH
variable {N p kd v pd b s : Nat} {w : gW} {pu ti ro : Nat → Int} {L : List Cl} {x : List Nat} {a1 a2 : Int32} {price : Int}
def mbok (u : gW) (LL : List (List Nat)) (P : List Nat → Prop) (rk : List Nat → Int) (B : List Nat → Nat → Int) (a3 a4 : Int32) (st : Option (List Nat)) : Prop :=
  (st = none → a3.toInt = 0) ∧ ∀ y, st = some y → a3.toInt = 1 ∧ a4.toInt = rk y ∧ y ∈ LL ∧ P y ∧ (gI u 133 34).toInt = hsum y ∧ ∀ s, s < 6 → (gI u 155 s).toInt = gx y s ∧ (gI u 156 s).toInt = B y s
theorem mbok.c {u u' : gW} {LL : List (List Nat)} {P : List Nat → Prop} {rk : List Nat → Int} {B : List Nat → Nat → Int} {a3 a4 : Int32} {st : Option (List Nat)} (h34 : gI u' 133 34 = gI u 133 34) (h70 : ∀ k, gI u' 155 k = gI u 155 k) (h71 : ∀ k, gI u' 156 k = gI u 156 k) (h : mbok u LL P rk B a3 a4 st) : mbok u' LL P rk B a3 a4 st :=
  ⟨h.1, fun y hy => ⟨(h.2 y hy).1, (h.2 y hy).2.1, (h.2 y hy).2.2.1, (h.2 y hy).2.2.2.1, by rw [h34]; exact (h.2 y hy).2.2.2.2.1, fun s hs => by rw [h70, h71]; exact (h.2 y hy).2.2.2.2.2 s hs⟩⟩
/-- what choosing leaves behind -/
def mchP (w : gW) (L : List Cl) (P : List Nat → Prop) (rk : List Nat → Int) (LL : List (List Nat)) (B : List Nat → Nat → Int) (r : Int32) (u : gW) : Prop :=
  Fr MT SC w u ∧ ((r.toInt = 0 ∧ bst P rk LL none = none) ∨ (r.toInt = 1 ∧ ∃ y, bst P rk LL none = some y ∧ y ∈ LL ∧ P y ∧ (gI u 133 34).toInt = hsum y ∧ ∀ s, s < 6 → (gI u 155 s).toInt = gx y s ∧ (gI u 156 s).toInt = B y s))
theorem bmF_in {y : List Nat} {wg : List Nat → Int} (hy : h2 y) (hw : -1000000 ≤ wg y ∧ wg y ≤ 2000000) : -1000000 ≤ bmF kd price wg y ∧ bmF kd price wg y ≤ 2000000 := by
  have h1 := hy.sum
  unfold bmF bdF
  split
  · omega
  · split
    · omega
    · split
      · omega
      · split <;> omega
set_option maxHeartbeats 1000000 in
theorem c_mchoose {bar : Int} (hN : 1000 ≤ N) (hc : MP w p kd v pd b pu ti ro L) (h1 : a1.toInt = (p : Int)) (h2' : a2.toInt = price) (hpr : 0 ≤ price ∧ price ≤ 500) (ebar : bar = barF kd v pd ro) :
    ok (f_M_chooses N 133 a1 a2 w) (mchP w L (fun x => payA pu ti price x ∧ ¬ brd bar x) (bmF kd price (wgF L pu ti price)) (hLL L pu ti p kd pd (-1)) (fun y s => bx ti y price s)) := by
  have hc0 := hc
  obtain ⟨hL, hv, hwr, hpd, hp4, ⟨g1, g2, g3, g4, g5⟩, q1, q2, q3⟩ := hc
  obtain ⟨tl, -, twf, -⟩ := hv
  have hm := lay_M hL
  have hq1 : ∀ s, s < 6 → 0 ≤ pu s ∧ pu s ≤ 99 := fun s h => (q1 s h).2
  have hq2 : ∀ s, s < 6 → 0 ≤ ti s ∧ ti s ≤ 99 := fun s h => (q2 s h).2
  generalize eLL : hLL L pu ti p kd pd (-1) = LL
  generalize elims : l6f (limC L pu ti p kd pd (-1)) = lims
  have hin : ∀ y, y ∈ LL → y.length = 6 ∧ h2 y ∧ ∀ s, s < 6 → 0 ≤ pu s - gx y s := fun y hy => hLL_in twf tl (fun s h => (hq1 s h).1) (by rw [← eLL] at hy; exact hy)
  have hlm : lims.length = 6 := by rw [← elims]; rfl
  have hl2 : ∀ s, lims.getD s 0 ≤ 2 := fun s => by
    by_cases hs : s < 6
    · rw [← elims, l6f_g hs]; exact limC_in twf s
    · rw [List.getD_eq_getElem?_getD, List.getElem?_eq_none (by omega)]; simp
  have hlen : LL.length ≤ 900 := by
    rw [← eLL, hLL, hl_len, ← pp_6]; exact Nat.le_trans (pp_in (fun s => limC_in twf s) 6) (by decide)
  generalize eP : (fun x => payA pu ti price x ∧ ¬ brd bar x) = P
  generalize erk : bmF kd price (wgF L pu ti price) = rk
  have hP : ∀ y, P y ↔ payA pu ti price y ∧ ¬ brd bar y := fun y => by rw [← eP]
  unfold f_M_chooses f_M_chooses_b0
  simp only [ok_gd, ok_bd, ok_rr1, ok_nr0, ok_nr1, ok_ret, true_and, and_true, not_false_eq_true, sh_sI, sh_sR, sh_sL, gR_sI, gR_sL, gI_sR, gI_sL, sh_cI, gR_cI, hm]
  refine ok_call (c_layLimits hN hc0 h1) ?_
  rintro - u0 ⟨f0, hl0⟩
  have fs0 : Fr MT SC w u0 := f0.up (by simp) (by simp)
  unfold f_M_chooses_l13
  refine itr_li (β := List Nat) (fun R q => q.1 = 133 ∧ q.2.1 = a1 ∧ q.2.2.1 = a2 ∧ q.2.2.2.2.2.1.toInt = (if R = [] then 0 else 1) ∧ Fr MT SC w q.2.2.2.2.2.2 ∧ (∀ s, s < 6 → (gI q.2.2.2.2.2.2 151 s).toInt = gx lims s ∧ (gI q.2.2.2.2.2.2 154 s).toInt = heftF L s) ∧ (∀ y ∈ R, y ∈ LL) ∧ (∀ y R', R = y :: R' → MH q.2.2.2.2.2.2 y ∧ chn lims y R') ∧ ∃ st, bst P rk R st = bst P rk LL none ∧ mbok q.2.2.2.2.2.2 LL P rk (fun y s => bx ti y price s) q.2.2.2.1 q.2.2.2.2.1 st) ?_ ?_ LL N _ ?_ (by omega)
  · rintro rec x R ⟨q0, q1', q2', a3, a4, a5, u⟩ ⟨e0, e1, e2, e5, f, e67, eR, eC, st, est, ebo⟩ IH
    simp only at e0 e1 e2 e5 f e67 eC ebo
    subst e0 e1 e2
    rw [if_neg (by simp)] at e5
    obtain ⟨ehs, ech⟩ := eC x R rfl
    have hxL := eR x List.mem_cons_self
    obtain ⟨hx6, hx2, hxn⟩ := hin x hxL
    have hcu := hc0.mt f
    have hm := lay_M hcu.1
    -- on to the next hand
    have fin : ∀ (u' : gW) (a3' a4' : Int32) (st' : Option (List Nat)), Fr MT SC w u' → (∀ s, s < 6 → (gI u' 151 s).toInt = gx lims s ∧ (gI u' 154 s).toInt = heftF L s) → MH u' x → mbok u' LL P rk (fun y s => bx ti y price s) a3' a4' st' → bst P rk R st' = bst P rk LL none →
        ok (f_M_chooses_b97 N rec 133 q1' q2' a3' a4' u') (mchP w L P rk LL (fun y s => bx ti y price s)) := by
      intro u' a3' a4' st' f' g67 ghs gbo gst
      have hL' := f'.lay hL
      have hm := lay_M hL'
      unfold f_M_chooses_b97
      simp only [ok_gd, ok_bd, ok_rr1, ok_nr0, ok_nr1, ok_ret, true_and, and_true, not_false_eq_true, sh_sI, sh_sR, sh_sL, gR_sI, gR_sL, gI_sR, gI_sL, sh_cI, gR_cI, hm]
      refine ok_call (c_nextHand hN hL' hlm (fun s h => (g67 s h).1) hl2 ghs hx2) ?_
      rintro r' v' ⟨f2, hnx⟩
      have f3 : Fr MT SC w v' := f'.tr (f2.up (by simp) (by simp))
      have g67' : ∀ s, s < 6 → (gI v' 151 s).toInt = gx lims s ∧ (gI v' 154 s).toInt = heftF L s := fun s hs => by rw [f2.i ⟨by decide, by simp⟩, f2.i ⟨by decide, by simp⟩]; exact g67 s hs
      have gbo' := gbo.c (u' := v') (f2.c ⟨by decide, by simp⟩) (fun k => f2.i ⟨by decide, by simp⟩) (fun k => f2.i ⟨by decide, by simp⟩)
      refine IH _ ?_
      refine ⟨rfl, rfl, rfl, ?_, f3, g67', fun y hy => eR y (List.mem_cons_of_mem _ hy), fun y R' hR' => ?_, st', gst, gbo'⟩
      · show r'.toInt = _
        cases R with
        | nil =>
          simp only [chn] at ech
          rcases hnx with ⟨y, h, -⟩ | ⟨-, h⟩
          · rw [ech] at h; cases h
          · rw [h, if_pos rfl]
        | cons y R' =>
          simp only [chn] at ech
          rcases hnx with ⟨y', h, h', -⟩ | ⟨h, -⟩
          · rw [h', if_neg (by simp)]
          · rw [ech.1] at h; cases h
      · subst hR'
        simp only [chn] at ech
        rcases hnx with ⟨y', h, -, h', -⟩ | ⟨h, -⟩
        · rw [ech.1] at h; cases h; exact ⟨h', ech.2⟩
        · rw [ech.1] at h; cases h
    show ok (f_M_chooses_b13 N rec 133 q1' q2' a3 a4 a5 u) _
    unfold f_M_chooses_b13
    refine ok_cdf (by rw [ti_eq, e5, ti_0]; decide) ?_
    simp only [ok_gd, ok_bd, ok_rr1, ok_nr0, ok_nr1, ok_ret, true_and, and_true, not_false_eq_true, sh_sI, sh_sR, sh_sL, gR_sI, gR_sL, gI_sR, gI_sL, sh_cI, gR_cI, hm]
    refine ok_call (c_mpays hN hcu ehs hx2 h1 h2' (by omega)) ?_
    rintro r u1 ⟨f1, hms, hr⟩
    have fu1 : Fr MT SC w u1 := f.tr (f1.up (by simp) (by simp))
    have g67 : ∀ s, s < 6 → (gI u1 151 s).toInt = gx lims s ∧ (gI u1 154 s).toInt = heftF L s := fun s hs => by rw [f1.i ⟨by decide, by simp⟩, f1.i ⟨by decide, by simp⟩]; exact e67 s hs
    have ghs := ehs.fr f1 ⟨by decide, by simp⟩
    have gbo := ebo.c (u' := u1) (f1.c ⟨by decide, by decide⟩) (fun k => f1.i ⟨by decide, by simp⟩) (fun k => f1.i ⟨by decide, by simp⟩)
    have hcu1 := hc0.mt fu1
    have hm := lay_M hcu1.1
    rcases hr with ⟨hr, hPx, hbk⟩ | ⟨hr, hPx⟩
    · refine ok_cdf (by rw [ti_eq, hr, ti_0]; decide) ?_
      simp only [ok_gd, ok_bd, ok_rr1, ok_nr0, ok_nr1, ok_ret, true_and, and_true, not_false_eq_true, sh_sI, sh_sR, sh_sL, gR_sI, gR_sL, gI_sR, gI_sL, sh_cI, gR_cI, hm]
      refine ok_call (c_isBarred hcu1 ghs h1) ?_
      rintro r2 u2 ⟨rfl, hr2⟩
      rw [← ebar] at hr2
      rcases hr2 with ⟨hr2, hbr⟩ | ⟨hr2, hbr⟩
      · refine ok_cdf (by rw [ti_eq, hr2, ti_0]; decide) ?_
        refine fin u2 a3 a4 st fu1 g67 ghs gbo ?_
        rw [← est]
        show _ = bst P rk R (stp P rk st x)
        rw [stp_no (fun z => ((hP x).mp z).2 hbr)]
      · have hPP : P x := (hP x).mpr ⟨hPx, hbr⟩
        have hbk' : ∀ s, s < 6 → (gI u2 153 s).toInt = bx ti x price s ∧ 0 ≤ bx ti x price s ∧ bx ti x price s ≤ 999 := fun s hs => by
          have := bx_in hq2 hx2 hPx.1 hs
          exact ⟨hbk s hs, by omega, by omega⟩
        have b79 : ∀ (z0 : Int32), z0.toInt = rk x → (st = none ∨ ∃ y, st = some y ∧ rk x < rk y) → ok (f_M_chooses_b79 N rec 133 q1' q2' z0 u2) (mchP w L P rk LL (fun y s => bx ti y price s)) := by
          intro z0 hz0 hst
          have f34 : Fr [] [(133, 34)] u2 (sI u2 133 34 (gI u2 133 32)) := Fr_sI Fr.rf (by simp)
          have fu3 : Fr MT SC w (sI u2 133 34 (gI u2 133 32)) := fu1.tr (f34.up (by simp) (by simp))
          have hm := lay_M (fu1.lay hL)
          unfold f_M_chooses_b79
          simp only [ok_gd, ok_bd, ok_rr1, ok_nr0, ok_nr1, ok_ret, true_and, and_true, not_false_eq_true, sh_sI, sh_sR, sh_sL, gR_sI, gR_sL, gI_sR, gI_sL, sh_cI, gR_cI, hm]
          refine ok_call (c_layBest hN (fu3.lay hL) (ghs.fr f34 ⟨by simp, by simp⟩) (bb := fun s => bx ti x price s) (fun s hs => by rw [f34.i ⟨by simp, by simp⟩]; exact hbk s hs)) ?_
          rintro - u4 ⟨f4, hbest⟩
          have fu4 : Fr MT SC w u4 := fu3.tr (f4.up (by simp) (by simp))
          refine fin u4 1 z0 (some x) fu4 (fun s hs => by rw [f4.i ⟨by decide, by simp⟩, f4.i ⟨by decide, by simp⟩, f34.i ⟨by simp, by simp⟩, f34.i ⟨by simp, by simp⟩]; exact g67 s hs) ((ghs.fr f34 ⟨by simp, by simp⟩).fr f4 ⟨by decide, by simp⟩) ⟨fun h => (by cases h), fun y hy => ?_⟩ ?_
          · cases hy
            exact ⟨ti_1, hz0, hxL, hPP, by rw [f4.c ⟨by decide, by simp⟩, gI_eq]; exact hms.1, hbest⟩
          · rw [← est]
            show _ = bst P rk R (stp P rk st x)
            rcases hst with rfl | ⟨y, rfl, h⟩
            · rw [stp_0 hPP]
            · rw [stp_1 hPP h]
        have b66 : ∀ (z0 : Int32), z0.toInt = rk x → ok (f_M_chooses_b66 N rec 133 q1' q2' a3 a4 z0 u2) (mchP w L P rk LL (fun y s => bx ti y price s)) := by
          intro z0 hz0
          unfold f_M_chooses_b66
          cases st with
          | none =>
            exact ok_cdt (by rw [ti_eq, gbo.1 rfl, ti_0]) (b79 z0 hz0 (Or.inl rfl))
          | some y =>
            have hy := gbo.2 y rfl
            refine ok_cdf (by rw [ti_eq, hy.1, ti_0]; decide) ?_
            rw [ok_cd]
            refine ⟨fun c => ?_, fun c => ?_⟩
            · rw [ti_le, hy.2.1, hz0] at c
              refine fin u2 a3 a4 (some y) fu1 g67 ghs gbo ?_
              rw [← est]
              show bst P rk R (some y) = bst P rk R (stp P rk (some y) x)
              rw [stp_2 (by omega)]
            · rw [ti_le, hy.2.1, hz0] at c
              exact b79 z0 hz0 (Or.inr ⟨y, rfl, by omega⟩)
        have i1 := ix_of (m := 4) h1 hp4
        rw [nat_of h1] at i1
        have k1 : (gI u2 135 p).toInt = (kd : Int) := hcu1.2.2.2.2.2.1.1
        have b61 : (¬ (kd = 1 ∧ hsum x = price)) → ok (f_M_chooses_b61 N rec 133 q1' q2' a3 a4 u2) (mchP w L P rk LL (fun y s => bx ti y price s)) := by
          intro hne
          unfold f_M_chooses_b61
          simp only [ok_gd, ok_bd, ok_rr1, ok_nr0, ok_nr1, ok_ret, true_and, and_true, not_false_eq_true, sh_sI, sh_sR, sh_sL, gR_sI, gR_sL, gI_sR, gI_sL, sh_cI, gR_cI, hm]
          refine ok_call (c_badness (price := price) hN hcu1 ghs hms hx2 h1 hbk' (fun s hs => (g67 s hs).2) hxn) ?_
          rintro r3 u3 ⟨rfl, hr3⟩
          refine b66 r3 ?_
          rw [hr3, ← erk]; unfold bmF; rw [if_neg hne]
        refine ok_cdt (by rw [ti_eq, hr2, ti_0]) ?_
        simp only [ok_gd, ok_bd, ok_rr1, ok_nr0, ok_nr1, ok_ret, true_and, and_true, not_false_eq_true, sh_sI, sh_sR, sh_sL, gR_sI, gR_sL, gI_sR, gI_sL, sh_cI, gR_cI, hm, nat_of h1, i1]
        rw [ok_cd]
        refine ⟨fun c => ?_, fun c => ?_⟩
        · rw [ti_eq, k1, ti_1] at c
          rw [ok_bd, ok_cd]
          refine ⟨fun d => ?_, fun d => ?_⟩
          · rw [ti_eq, hms.1, h2'] at d
            simp only [ok_bd]
            refine b66 _ ?_
            have e : - gI u2 133 33 = 0 - gI u2 133 33 := by simp
            have hsm := hx2.sum
            rw [e, ← erk]; unfold bmF; rw [if_pos ⟨by omega, d⟩, ti_sub] <;> rw [hms.2, ti_0] <;> omega
          · rw [ti_eq, hms.1, h2'] at d
            exact b61 (fun z => d z.2)
        · rw [ti_eq, k1, ti_1] at c
          exact b61 (fun z => c (by omega))
    · refine ok_cdt (by rw [ti_eq, hr, ti_0]) ?_
      refine fin u1 a3 a4 st fu1 g67 ghs gbo ?_
      rw [← est]
      show _ = bst P rk R (stp P rk st x)
      rw [stp_no (fun z => hPx ((hP x).mp z).1)]
  · rintro rec ⟨q0, q1', q2', a3, a4, a5, u⟩ ⟨e0, e1, e2, e5, f, e67, eR, eC, st, est, ebo⟩
    simp only at e0 e1 e2 e5 f e67 eC ebo
    subst e0 e1 e2
    rw [if_pos trivial] at e5
    have est' : st = bst P rk LL none := est
    show ok (f_M_chooses_b13 N rec 133 q1' q2' a3 a4 a5 u) _
    unfold f_M_chooses_b13
    refine ok_cdt (by rw [ti_eq, e5, ti_0]) ?_
    cases st with
    | none =>
      have h0 := ebo.1 rfl
      exact ok_gdt (by rw [ti_eq, ti_eq, h0, ti_0, ti_1]; exact Or.inl rfl) (ok_ret.mpr ⟨f, Or.inl ⟨h0, est'.symm⟩⟩)
    | some y =>
      obtain ⟨h0, -, h2, h3, h4, h5⟩ := ebo.2 y rfl
      exact ok_gdt (by rw [ti_eq, ti_eq, h0, ti_0, ti_1]; exact Or.inr rfl) (ok_ret.mpr ⟨f, Or.inr ⟨h0, y, est'.symm, h2, h3, h4, h5⟩⟩)
  · obtain ⟨t, ht, hch⟩ := hl_chn lims
    have eLL' : LL = [0, 0, 0, 0, 0, 0] :: t := by rw [← eLL, hLL, elims, ht, hlm]; rfl
    refine ⟨rfl, rfl, rfl, ?_, fs0, fun s hs => ⟨?_, (hl0 s hs).2.2⟩, fun y hy => hy, fun y R' hR' => ?_, none, rfl, fun _ => ti_0, fun y hy => by cases hy⟩
    · rw [eLL', if_neg (by simp)]; rfl
    · rw [(hl0 s hs).1, ← elims]; unfold gx; rw [l6f_g hs]
    · rw [eLL'] at hR'
      cases hR'
      rw [hlm] at hch
      exact ⟨⟨rfl, fun s hs => by rw [(hl0 s hs).2.1]; rcases in6 hs with rfl | rfl | rfl | rfl | rfl | rfl <;> rfl⟩, hch⟩
end MCH
