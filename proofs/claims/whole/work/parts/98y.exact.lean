/-! ===== prices that can be paid exactly: the class =====  -/
def sumT (t : Nat → Nat) : Nat → Nat
  | 0 => 0
  | k + 1 => sumT t k + t k
theorem bPc_sum (m : Nat) : bPc (m % 256) = m / 2 ^ 0 % 2 + m / 2 ^ 1 % 2 + m / 2 ^ 2 % 2 + m / 2 ^ 3 % 2 + m / 2 ^ 4 % 2 + m / 2 ^ 5 % 2 + m / 2 ^ 6 % 2 + m / 2 ^ 7 % 2 := by
  have h0 : m % 256 % 2 = m / 2 ^ 0 % 2 := by omega
  have h1 : m % 256 / 2 % 2 = m / 2 ^ 1 % 2 := by omega
  have h2 : m % 256 / 4 % 2 = m / 2 ^ 2 % 2 := by omega
  have h3 : m % 256 / 8 % 2 = m / 2 ^ 3 % 2 := by omega
  have h4 : m % 256 / 16 % 2 = m / 2 ^ 4 % 2 := by omega
  have h5 : m % 256 / 32 % 2 = m / 2 ^ 5 % 2 := by omega
  have h6 : m % 256 / 64 % 2 = m / 2 ^ 6 % 2 := by omega
  have h7 : m % 256 / 128 % 2 = m / 2 ^ 7 % 2 := by omega
  unfold bPc
  rw [h0, h1, h2, h3, h4, h5, h6, h7]
theorem bPc_t {n : Nat} {t : Nat → Nat} (ht : ∀ j, t j = n / 2 ^ j % 2) (e : Nat) : bPc (n / 2 ^ e % 256) = t (e + 0) + t (e + 1) + t (e + 2) + t (e + 3) + t (e + 4) + t (e + 5) + t (e + 6) + t (e + 7) := by
  rw [bPc_sum]
  simp only [Nat.div_div_eq_div_mul, ← Nat.pow_add, ← ht]
theorem bCnt_t {n : Nat} {t : Nat → Nat} (ht : ∀ j, t j = n / 2 ^ j % 2) : bCnt n = sumT t 64 := by
  have e0 := bPc_t ht 0
  rw [Nat.pow_zero, Nat.div_one] at e0
  unfold bCnt
  rw [e0, bPc_t ht 8, bPc_t ht 16, bPc_t ht 24, bPc_t ht 32, bPc_t ht 40, bPc_t ht 48, bPc_t ht 56]
  simp only [sumT, Nat.reduceAdd]
  omega
section EXC
variable {N W o p kd v pd tp s : Nat} {w : gW} {pu ti ro : Nat → Int} {L : List Cl} {x : List Nat} {price bar : Int}
/-- which sums 1 .. 60 some hand pays exactly -/
def exQ (pu ti : Nat → Int) (x : List Nat) (j : Nat) : Prop := hsum x = (j : Int) ∧ 1 ≤ j ∧ j ≤ 60 ∧ payA pu ti (hsum x) x
noncomputable def dcd (P : Prop) : Bool := @decide P (Classical.propDecidable P)
theorem dcd_t {P : Prop} (h : P) : dcd P = true := by unfold dcd; exact @decide_eq_true P (Classical.propDecidable P) h
theorem dcd_f {P : Prop} (h : ¬ P) : dcd P = false := by unfold dcd; exact @decide_eq_false P (Classical.propDecidable P) h
noncomputable def exs (pu ti : Nat → Int) (st : Nat → Bool) (x : List Nat) : Nat → Bool := fun j => st j || dcd (exQ pu ti x j)
noncomputable def exA (pu ti : Nat → Int) (R : List (List Nat)) (st : Nat → Bool) : Nat → Bool := R.foldl (exs pu ti) st
theorem exs_no {st : Nat → Bool} (h : ∀ j, ¬ exQ pu ti x j) : exs pu ti st x = st := by
  funext j
  unfold exs
  rw [dcd_f (h j), Bool.or_false]
theorem exs_yes {st : Nat → Bool} {k : Nat} (h : exQ pu ti x k) : exs pu ti st x = fun j => st j || decide (k = j) := by
  funext j
  unfold exs
  congr 1
  by_cases e : k = j
  · subst e
    rw [dcd_t h, decide_eq_true rfl]
  · rw [decide_eq_false e, dcd_f]
    intro z
    exact e (by have := z.1; have := h.1; omega)
noncomputable def exN (L : List Cl) (p kd pd : Nat) (pu ti : Nat → Int) : Nat := sumT (fun j => (exA pu ti (hLL L pu ti p kd pd (-1)) (fun _ => false) j).toNat) 61
theorem exN_64 {t : Nat → Nat} (h : ∀ j, 60 < j → t j = 0) : sumT t 64 = sumT t 61 := by
  have h1 := h 61 (by omega); have h2 := h 62 (by omega); have h3 := h 63 (by omega)
  show sumT t 61 + t 61 + t 62 + t 63 = _
  omega
set_option maxHeartbeats 1000000 in
theorem c_exactPrices (hN : 1000 ≤ N) (hc : CP w W o p kd v pd tp pu ti ro L) :
    ok (f_Pm_exactPrices N 66 W o w) (fun r u => Fr ST SC w u ∧ r.toInt = ((exN L p kd pd pu ti : Nat) : Int)) := by
  have hc0 := hc
  obtain ⟨hL, hW, -, hp4, -, ⟨-, -, twf, tl, -, -⟩, ⟨-, -, o3, -⟩, q1, q2, -⟩ := hc
  obtain ⟨p0, -⟩ := lay_P hL
  have hq1 : ∀ s, s < 6 → 0 ≤ pu s ∧ pu s ≤ 99 := fun s h => (q1 s h).2
  unfold f_Pm_exactPrices f_Pm_exactPrices_b0
  simp only [ok_gd, ok_bd, ok_rr1, ok_nr0, ok_nr1, ok_ret, true_and, and_true, not_false_eq_true, sh_sI, sh_sR, sh_sL, gR_sI, gR_sL, gI_sR, gI_sL, sh_cI, gR_cI, p0]
  refine ok_call (c_begin1 hN hc0 (Or.inl ⟨ti_0, rfl⟩)) ?_
  rintro r u ⟨f, epr, ehs, e67, er⟩
  unfold exN
  generalize eLL : hLL L pu ti p kd pd (-1) = LL
  generalize elims : l6f (limC L pu ti p kd pd (-1)) = lims at e67 er
  have hin : ∀ y, y ∈ LL → y.length = 6 ∧ h2 y ∧ ∀ s, s < 6 → 0 ≤ pu s - gx y s := fun y hy => hLL_in twf tl (fun s h => (hq1 s h).1) (by rw [← eLL] at hy; exact hy)
  have hlm : lims.length = 6 := by rw [← elims]; rfl
  have hl2 : ∀ s, lims.getD s 0 ≤ 2 := fun s => by
    by_cases hs : s < 6
    · rw [← elims, l6f_g hs]; exact limC_in twf s
    · rw [List.getD_eq_getElem?_getD, List.getElem?_eq_none (by omega)]; simp
  have hlen : LL.length ≤ 900 := by
    rw [← eLL, hLL, hl_len, ← pp_6]; exact Nat.le_trans (pp_in (fun s => limC_in twf s) 6) (by decide)
  have er' : r.toInt = ((LL.length : Nat) : Int) := by rw [er, ← eLL, hLL, elims, hl_len]
  unfold f_Pm_exactPrices_l14
  refine itr_li (β := List Nat) (fun R q => q.1 = 66 ∧ q.2.1 = r ∧ (q.2.2.2.1.toInt + (R.length : Int) = (LL.length : Int) ∧ 0 ≤ q.2.2.2.1.toInt) ∧ Fr ST SC w q.2.2.2.2 ∧ PR q.2.2.2.2 W o ∧ (∀ s, s < 6 → (gI q.2.2.2.2 67 s).toInt = gx lims s) ∧ (∀ y ∈ R, y ∈ LL) ∧ (∀ y R', R = y :: R' → HS q.2.2.2.2 y ∧ chn lims y R') ∧ ∃ st, exA pu ti R st = exA pu ti LL (fun _ => false) ∧ (∀ j, 60 < j → st j = false) ∧ ∀ j, q.2.2.1.toUInt64.toNat.testBit j = st j) ?_ ?_ LL N _ ?_ (by omega)
  · rintro rec x R ⟨b0, b1, a4, a6, u1⟩ ⟨e0, e1, ⟨e8, e8'⟩, f', epr', e67', eR, eC, st, est, est6, ebt⟩ IH
    simp only at e0 e1 e8 e8' f' epr' e67' eC ebt
    subst e0 e1
    simp only [List.length_cons] at e8
    obtain ⟨ehs', ech⟩ := eC x R rfl
    have hxL := eR x List.mem_cons_self
    obtain ⟨hx6, hx2, hxn⟩ := hin x hxL
    have hsm := hx2.sum
    have hcu := hc0.sc f'
    obtain ⟨p0, -⟩ := lay_P hcu.1
    have k9 : a6.toInt < 2147483647 := by omega
    have e8s : a6.toInt + 1 + (R.length : Int) = (LL.length : Int) := by omega
    have e8t : 0 ≤ a6.toInt + 1 := by omega
    have est2 : exA pu ti R (exs pu ti st x) = exA pu ti LL (fun _ => false) := est
    have f7 : Fr [] [(66, 7)] u1 (sI u1 66 7 (gI u1 66 8)) := Fr_sI Fr.rf (by simp)
    have f7' : Fr ST SC w (sI u1 66 7 (gI u1 66 8)) := f'.tr (f7.up2 (by simp) (by simp))
    have nxt : ∀ (u2 : gW) (a4' : Int64) (st' : Nat → Bool), Fr [69] [] (sI u1 66 7 (gI u1 66 8)) u2 → exA pu ti R st' = exA pu ti LL (fun _ => false) → (∀ j, 60 < j → st' j = false) → (∀ j, a4'.toUInt64.toNat.testBit j = st' j) → ok (f_Pm_exactPrices_b63 N rec 66 b1 a4' a6 u2) (fun r u => Fr ST SC w u ∧ r.toInt = ((sumT (fun j => (exA pu ti LL (fun _ => false) j).toNat) 61 : Nat) : Int)) := by
      intro u2 a4' st' f3 est' est6' ebt'
      have f4 := pay_sc f7' f3
      have ehs2 := (ehs'.fr f7 ⟨by simp, by simp⟩ (by decide) (by decide)).fr f3 ⟨by decide, by simp⟩ (by decide) (by decide)
      obtain ⟨p0, -⟩ := lay_P (f4.lay hL)
      unfold f_Pm_exactPrices_b63
      simp only [ok_gd, ok_bd, ok_rr1, ok_nr0, ok_nr1, ok_ret, true_and, and_true, not_false_eq_true, sh_sI, sh_sR, sh_sL, gR_sI, gR_sL, gI_sR, gI_sL, sh_cI, gR_cI, p0]
      refine ok_call (c_advance hN (f4.lay hL) hlm (fun s hs => by rw [f3.i ⟨by decide, by simp⟩, f7.i ⟨by simp, by simp⟩]; exact e67' s hs) hl2 ehs2 hx2) ?_
      rintro - u3 ⟨f5, hnx⟩
      simp only [ok_bd]
      refine IH _ ?_
      refine ⟨rfl, rfl, ⟨?_, ?_⟩, adv_sc f4 f5, ((epr'.fr f7 (by decide) (by decide)).fr f3 (by decide) (by decide)).fr f5 (by decide) (by decide), fun s hs => ?_, fun y hy => eR y (List.mem_cons_of_mem _ hy), fun y R' hR' => ?_, st', est', est6', ebt'⟩
      · show (a6 + 1).toInt + _ = _; rw [ti_add1 k9]; exact e8s
      · show 0 ≤ (a6 + 1).toInt; rw [ti_add1 k9]; exact e8t
      · show (gI u3 67 s).toInt = _; rw [f5.i ⟨by decide, by simp⟩, f3.i ⟨by decide, by simp⟩, f7.i ⟨by simp, by simp⟩]; exact e67' s hs
      · subst hR'
        simp only [chn] at ech
        exact ⟨(hnx y ech.1).1, ech.2⟩
    have e8x : (gI u1 66 8).toInt = hsum x := ehs'.2.2.1
    have e8y : gI (sI u1 66 7 (gI u1 66 8)) 66 8 = gI u1 66 8 := f7.c (by decide)
    have hcu7 := hc0.sc f7'
    obtain ⟨p7, -⟩ := lay_P hcu7.1
    have skip : (∀ j, ¬ exQ pu ti x j) → exA pu ti R st = exA pu ti LL (fun _ => false) := fun h => by rw [exs_no h] at est2; exact est2
    show ok (f_Pm_exactPrices_b14 N rec 66 b1 a4 a6 u1) _
    unfold f_Pm_exactPrices_b14
    refine ok_cdf (by rw [ti_le, er']; omega) ?_
    simp only [ok_gd, ok_bd, p0, p7, true_and]
    rw [e8y, ok_cd]
    refine ⟨fun g => ?_, fun g => ?_⟩ <;> rw [ti_lt, e8x, ti_1] at g
    · exact nxt _ a4 st Fr.rf (skip (fun j z => by have := z.1; have := z.2.1; omega)) est6 ebt
    have t60 : (60 : Int32).toInt = 60 := rfl
    rw [ok_bd, ok_cd]
    refine ⟨fun g2 => ?_, fun g2 => ?_⟩ <;> rw [ti_lt, e8x, t60] at g2
    · exact nxt _ a4 st Fr.rf (skip (fun j z => by have := z.1; have := z.2.2.1; omega)) est6 ebt
    refine ok_call (c_pays (price := hsum x) hN hcu7 (epr'.fr f7 (by decide) (by decide)) (ehs'.fr f7 ⟨by simp, by simp⟩ (by decide) (by decide)) hx2 (by rw [gI_eq]; exact e8x) (by omega)) ?_
    rintro r1 u2 ⟨f3, hr1⟩
    rcases hr1 with ⟨hr1, hP, -⟩ | ⟨hr1, hP⟩
    · refine ok_cdf (by rw [ti_eq, hr1, ti_0]; decide) ?_
      have f4 := pay_sc f7' f3
      obtain ⟨p0, -⟩ := lay_P (f4.lay hL)
      obtain ⟨k, hk⟩ : ∃ k : Nat, hsum x = (k : Int) := ⟨(hsum x).toNat, by omega⟩
      have hQ : exQ pu ti x k := ⟨hk, by omega, by omega, hP⟩
      rw [exs_yes hQ] at est2
      have e8z : (gI u2 66 8).toInt64.toInt = (k : Int) := by rw [tl_i, f3.i ⟨by decide, by simp⟩, e8y, e8x, hk]
      simp only [ok_gd, ok_bd, p0, true_and]
      refine nxt u2 _ _ f3 est2 (fun j hj => ?_) (fun j => ?_)
      · show (st j || decide (k = j)) = false
        rw [est6 j hj, decide_eq_false (by omega)]; rfl
      · show _ = (st j || decide (k = j))
        rw [u_or rfl (u_bit e8z (by omega)), Nat.testBit_or, ebt j, Nat.testBit_two_pow]
    · refine ok_cdt (by rw [ti_eq, hr1, ti_0]) ?_
      exact nxt u2 a4 st f3 (skip (fun j z => hP z.2.2.2)) est6 ebt
  · rintro rec ⟨b0, b1, a4, a6, u1⟩ ⟨e0, e1, ⟨e8, e8'⟩, f', epr', e67', eR, eC, st, est, est6, ebt⟩
    simp only at e0 e1 e8 e8' f' ebt
    subst e0 e1
    simp only [List.length_nil] at e8
    have est' : st = exA pu ti LL (fun _ => false) := est
    show ok (f_Pm_exactPrices_b14 N rec 66 b1 a4 a6 u1) _
    unfold f_Pm_exactPrices_b14
    refine ok_cdt (by rw [ti_le, er']; omega) ?_
    refine ok_call (c_bitCount rfl) ?_
    rintro r2 u2 ⟨rfl, hr2⟩
    refine ok_ret.mpr ⟨f', ?_⟩
    rw [hr2, ← est', bCnt_t (t := fun j => (st j).toNat) (fun j => by show (st j).toNat = _; rw [← ebt j, Nat.toNat_testBit]), exN_64 (fun j hj => by show (st j).toNat = 0; rw [est6 j hj]; rfl)]
  · obtain ⟨t, ht, hch⟩ := hl_chn lims
    have eLL' : LL = [0, 0, 0, 0, 0, 0] :: t := by rw [← eLL, hLL, elims, ht, hlm]; rfl
    refine ⟨rfl, rfl, ⟨?_, ?_⟩, f, epr, e67, fun y hy => hy, fun y R' hR' => ?_, (fun _ => false), rfl, fun _ _ => rfl, fun j => ?_⟩
    · show (0 : Int32).toInt + _ = _; rw [ti_0, Int.zero_add]
    · show 0 ≤ (0 : Int32).toInt; rw [ti_0]; decide
    · rw [eLL'] at hR'
      cases hR'
      rw [hlm] at hch
      exact ⟨ehs, hch⟩
    · exact Nat.zero_testBit j
end EXC
