/-! ===== a payment in the class: the first hand, how many there are -/
def l6f (f : Nat → Nat) : List Nat := [f 0, f 1, f 2, f 3, f 4, f 5]
theorem l6f_g {f : Nat → Nat} {s : Nat} (h : s < 6) : (l6f f).getD s 0 = f s := by
  rcases in6 h with rfl | rfl | rfl | rfl | rfl | rfl <;> rfl
def pp (f : Nat → Nat) : Nat → Nat
  | 0 => 1
  | k + 1 => pp f k * (f k + 1)
theorem pp_6 {f : Nat → Nat} : pp f 6 = prd (l6f f) := by
  simp only [pp, prd, l6f, Nat.mul_assoc, Nat.one_mul, Nat.mul_one]
theorem pp_in {f : Nat → Nat} (h : ∀ s, f s ≤ 2) : ∀ k, pp f k ≤ 3 ^ k := by
  intro k
  induction k with
  | zero => exact Nat.le_refl _
  | succ k ih =>
    have h1 : f k + 1 ≤ 3 := by have := h k; omega
    rw [Nat.pow_succ]; exact Nat.mul_le_mul ih h1
def limN (M : Int) (pu kp : Nat → Int) (s : Nat) : Nat := (max 0 (min (pu s - kp s) M)).toNat
def kpF (L : List Cl) (ti : Nat → Int) (p kd pd : Nat) (s : Nat) : Int := keptF L (fct s (ti s) p kd ((pd : Int) % 7))
def limC (L : List Cl) (pu ti : Nat → Int) (p kd pd : Nat) (bar : Int) (s : Nat) : Nat := if (s : Int) = bar then 0 else limN (mostF L) pu (kpF L ti p kd pd) s
theorem mostF_in {L : List Cl} (h : WF L) : 0 ≤ mostF L ∧ mostF L ≤ 2 := by
  have := mostL_in L 2 h (by omega)
  unfold mostF; omega
theorem limC_in {L : List Cl} {pu ti : Nat → Int} {p kd pd : Nat} {bar : Int} (h : WF L) (s : Nat) : limC L pu ti p kd pd bar s ≤ 2 := by
  have := mostF_in h
  unfold limC limN; split <;> omega
set_option maxRecDepth 20000 in
theorem r66a : ∀ t ∈ refT, ¬ (t.1 = 66 ∧ t.2.1 = 5) := by decide
set_option maxRecDepth 20000 in
theorem r66b : ∀ t ∈ refT, ¬ (t.1 = 66 ∧ t.2.1 = 6) := by decide
section CBEG
variable {N W o p kd v pd tp s : Nat} {w : gW} {pu ti ro : Nat → Int} {L : List Cl} {x : List Nat} {price : Int}
set_option maxHeartbeats 1000000 in
theorem c_begin1 {a3 : Int32} {bar : Int} (hN : 1000 ≤ N) (hc : CP w W o p kd v pd tp pu ti ro L) (h3 : (a3.toInt = 0 ∧ bar = -1) ∨ (a3.toInt = 1 ∧ bar = barF kd v pd ro)) :
    ok (f_Pm_begin N 66 W o a3 w) (fun r u => Fr ST SC w u ∧ PR u W o ∧ HS u [0, 0, 0, 0, 0, 0] ∧ (∀ s, s < 6 → (gI u 67 s).toInt = gx (l6f (limC L pu ti p kd pd bar)) s) ∧ r.toInt = ((prd (l6f (limC L pu ti p kd pd bar)) : Nat) : Int)) := by
  have hc0 := hc
  obtain ⟨hL, hW, hT, hp, h14, ⟨t6, tc, twf, tl, tm, th⟩, ⟨o1, o2, o3, o4, o5, o6, o7⟩, q1, q2, q3, q4⟩ := hc
  obtain ⟨p0, -⟩ := lay_P hL
  have hlim := fun s => limC_in (pu := pu) (ti := ti) (p := p) (kd := kd) (pd := pd) (bar := bar) twf s
  have hmo := mostF_in twf
  generalize hlm : limC L pu ti p kd pd bar = lm at *
  have o3' : (sh w o).1 < 7 := by omega
  have n0 : tp + 7 ≠ 66 ∧ tp + 7 ≠ 67 ∧ tp + 7 ≠ 68 ∧ tp + 7 ≠ 69 := by rcases hT with rfl | ⟨i, hi, rfl⟩ <;> omega
  unfold f_Pm_begin f_Pm_begin_b0 f_Pm_begin_l26
  simp only [ok_gd, ok_bd, ok_rr1, ok_nr0, ok_nr1, ok_ret, true_and, and_true, not_false_eq_true, sh_sI, sh_sR, sh_sL, gR_sI, gR_sL, gI_sR, gI_sL, sh_cI, gR_cI, p0]
  refine itr_up (fun k q => q.1 = 66 ∧ q.2.1 = W ∧ q.2.2.1 = o ∧ q.2.2.2.1 = a3 ∧ q.2.2.2.2.1.toInt = ((pp lm k : Nat) : Int) ∧ q.2.2.2.2.2.1.toInt = (k : Int) ∧ Fr ST SC w q.2.2.2.2.2.2 ∧ PR q.2.2.2.2.2.2 W o ∧ (gI q.2.2.2.2.2.2 66 8).toInt = 0 ∧ (gI q.2.2.2.2.2.2 66 9).toInt = 0 ∧ ∀ j, j < k → (gI q.2.2.2.2.2.2 67 j).toInt = (lm j : Int) ∧ (gI q.2.2.2.2.2.2 68 j).toInt = 0) 6 ?_ ?_ N 0 _ (by omega) ?_ (by omega)
  · rintro rec k ⟨b0, b1, b2, b3, a4, a5, u⟩ hk ⟨e0, e1, e2, e3, e4, e5, f, hpr, f8, f9, hj⟩ IH
    simp only at e0 e1 e2 e3 e4 e5 f hpr f8 f9 hj
    subst e0 e1 e2 e3
    have n5 := nat_of e5
    have g5 := ix_of (m := 6) e5 hk
    rw [n5] at g5
    have k9 : k < 2147483647 := by omega
    have f2 : Fr ST SC w (sI (sI u 68 k 0) 69 k 0) := Fr_sI (Fr_sI f (by simp)) (by simp)
    obtain ⟨hL2, -, -, -, h14', ⟨t6', tc', -, -, tm', -⟩, ⟨-, o2', -, o4', o5', -, -⟩, q1', q2', q3', -⟩ := hc0.sc f2
    obtain ⟨p0, l0, p1, p2, -, -, s67, s68, s69, -⟩ := lay_P (f.lay hL)
    obtain ⟨w0, -, w2, -, -, -, -, -, -, -, -, -, z2, -⟩ := lay_W (f.lay hL) hW
    obtain ⟨y1, y2, -⟩ := lay_Wp (f.lay hL) hW hp
    obtain ⟨t0, -⟩ := lay_T (f.lay hL) hT
    have o2'' : (sh u b2).1 < 7 := by rw [f.s]; omega
    have n1 := nat_of o5'
    have g1 := ix_of (m := 4) o5' hp
    rw [n1] at g1
    have h14'' : gR u b1 14 = some tp := h14'
    have hle := hlim k
    have hpp : pp lm k ≤ 729 := Nat.le_trans (pp_in hlim k) (by rcases in6 hk with rfl | rfl | rfl | rfl | rfl | rfl <;> decide)
    -- what every way ends in
    have fin : ∀ (u' : gW) (z : Int32), Fr [tp + 7] [] (sI (sI u 68 k 0) 69 k 0) u' → z.toInt = (lm k : Int) → ok (f_Pm_begin_b127 N rec 66 b1 b2 b3 a4 a5 z a5 67 u') (fun r u => Fr ST SC w u ∧ PR u b1 b2 ∧ HS u [0, 0, 0, 0, 0, 0] ∧ (∀ s, s < 6 → (gI u 67 s).toInt = gx (l6f lm) s) ∧ r.toInt = ((prd (l6f lm) : Nat) : Int)) := by
      intro u' z f' hz
      have f3 : Fr ST SC w u' := f2.tr (f'.up (by simpa using T7 hT) (by simp))
      obtain ⟨p0, l0, -, -, -, -, s67, -⟩ := lay_P (f3.lay hL)
      have t1 : (a4 * (z + 1)).toInt = ((pp lm (k + 1) : Nat) : Int) := by
        have z1 : (z + 1).toInt = ((lm k + 1 : Nat) : Int) := ti_p1 hz (by omega)
        have z2 : pp lm k * (lm k + 1) ≤ 729 * 3 := Nat.mul_le_mul hpp (by omega)
        simp only [pp]
        rw [ti_mul] <;> rw [e4, z1, ← Int.natCast_mul] <;> omega
      unfold f_Pm_begin_b127
      simp (disch := decide) only [ok_gd, ok_bd, ok_rr1, ok_nr0, ok_nr1, ok_ret, true_and, and_true, not_false_eq_true, sh_sI, sh_sR, sh_sL, gR_sI, gR_sL, gI_sR, gI_sL, sh_cI, gR_cI, gI_eq, p0, l0, s67, n5, g5]
      refine IH _ ?_
      refine ⟨rfl, rfl, rfl, rfl, t1, ti_p1 e5 k9, Fr_sI f3 (by simp), ?_, ?_, ?_, fun j hj' => ⟨?_, ?_⟩⟩
      · exact ⟨by show gR u' 66 5 = _; rw [f'.r ⟨by simp; omega, by simp⟩]; exact hpr.1, by show gR u' 66 6 = _; rw [f'.r ⟨by simp; omega, by simp⟩]; exact hpr.2⟩
      · show (gI (sI u' 67 k z) 66 8).toInt = 0
        rw [gI_ne (by decide), f'.i ⟨by simp; omega, by simp⟩]; exact f8
      · show (gI (sI u' 67 k z) 66 9).toInt = 0
        rw [gI_ne (by decide), f'.i ⟨by simp; omega, by simp⟩]; exact f9
      · show (gI (sI u' 67 k z) 67 j).toInt = _
        rw [gI_sI]
        by_cases e : j = k
        · rw [if_pos ⟨rfl, e⟩, e]; exact hz
        · rw [if_neg (fun q => e q.2), f'.i ⟨by simp; omega, by simp⟩]; exact (hj j (by omega)).1
      · show (gI (sI u' 67 k z) 68 j).toInt = _
        rw [gI_ne (by decide), f'.i ⟨by simp; omega, by simp⟩, gI_ne (by decide), gI_sI]
        by_cases e : j = k
        · rw [if_pos ⟨rfl, e⟩]; rfl
        · rw [if_neg (fun q => e q.2)]; exact (hj j (by omega)).2
    have kp := c_kept (N := N) (w := sI (sI u 68 k 0) 69 k 0) hN hL2 hT hW e5 hk o1 (by omega) o5' hp (by rw [q3']; omega) t6' tc' twf tl
    refine ok_cdf (by rw [ti_le, e5, ti_6]; omega) ?_
    simp only [ok_gd, ok_bd, ok_rr1, ok_nr0, ok_nr1, ok_ret, true_and, and_true, not_false_eq_true, sh_sI, sh_sR, sh_sL, gR_sI, gR_sL, gI_sR, gI_sL, sh_cI, gR_cI, p0, p1, p2, s68, s69, n5, g5, w0, w2, o2'', z2, y1, y2, n1, g1, h14'', t0]
    refine ok_call kp ?_
    rintro r u' ⟨f', hr⟩
    rw [(q2' k hk).1, o4', q3'] at hr
    have f3 : Fr ST SC w u' := f2.tr (f'.up (by simpa using T7 hT) (by simp))
    have hk0 : r.toInt = kpF L ti p kd pd k := hr
    have kin := keptF_in (L := L) (ft := fct k (ti k) p kd ((pd : Int) % 7)) twf tl
    have hc3 := hc0.sc f3
    have hc3' := hc3
    obtain ⟨hL3, -, -, -, h14'', ⟨-, -, -, -, tm'', -⟩, -⟩ := hc3'
    obtain ⟨p0, l0, -⟩ := lay_P hL3
    obtain ⟨w0, -⟩ := lay_W hL3 hW
    obtain ⟨t0, -⟩ := lay_T hL3 hT
    have d1 : (gI (sI (sI u 68 k 0) 69 k 0) (b1 + 3 + p) k - r).toInt = pu k - kpF L ti p kd pd k := by
      have := (q1' k hk).2
      have e : 0 ≤ kpF L ti p kd pd k ∧ kpF L ti p kd pd k ≤ 990 := kin
      rw [ti_sub] <;> rw [(q1' k hk).1, hk0] <;> omega
    -- its own way
    have way1 : (k : Int) ≠ bar → ok (f_Pm_begin_b89 N rec 66 b1 b2 b3 a4 a5 (gI (sI (sI u 68 k 0) 69 k 0) (b1 + 3 + p) k - r) u') (fun r u => Fr ST SC w u ∧ PR u b1 b2 ∧ HS u [0, 0, 0, 0, 0, 0] ∧ (∀ s, s < 6 → (gI u 67 s).toInt = gx (l6f lm) s) ∧ r.toInt = ((prd (l6f lm) : Nat) : Int)) := by
      intro hb
      generalize (gI (sI (sI u 68 k 0) 69 k 0) (b1 + 3 + p) k - r) = a6 at d1
      unfold f_Pm_begin_b89 f_Pm_begin_b94
      simp only [ok_gd, ok_bd, ok_rr1, ok_nr0, ok_nr1, ok_ret, true_and, and_true, not_false_eq_true, sh_sI, sh_sR, sh_sL, gR_sI, gR_sL, gI_sR, gI_sL, sh_cI, gR_cI, p0, l0]
      refine ok_cdf (by decide) ?_
      simp only [ok_gd, ok_bd, ok_rr1, ok_nr0, ok_nr1, ok_ret, true_and, and_true, not_false_eq_true, sh_sI, sh_sR, sh_sL, gR_sI, gR_sL, gI_sR, gI_sL, sh_cI, gR_cI, w0, h14'', t0]
      refine fin u' _ f' ?_
      rw [ti_max0, ti_min, d1, tm'', ← hlm]
      unfold limC limN
      rw [if_neg hb]; omega
    have way0 : (k : Int) = bar → ok (f_Pm_begin_b94 N rec 66 b1 b2 b3 a4 a5 (gI (sI (sI u 68 k 0) 69 k 0) (b1 + 3 + p) k - r) 0 u') (fun r u => Fr ST SC w u ∧ PR u b1 b2 ∧ HS u [0, 0, 0, 0, 0, 0] ∧ (∀ s, s < 6 → (gI u 67 s).toInt = gx (l6f lm) s) ∧ r.toInt = ((prd (l6f lm) : Nat) : Int)) := by
      intro hb
      unfold f_Pm_begin_b94
      simp only [ok_gd, ok_bd, ok_rr1, ok_nr0, ok_nr1, ok_ret, true_and, and_true, not_false_eq_true, sh_sI, sh_sR, sh_sL, gR_sI, gR_sL, gI_sR, gI_sL, sh_cI, gR_cI, p0, l0]
      refine ok_cdt trivial ?_
      refine fin u' _ f' ?_
      rw [ti_0, ← hlm]
      unfold limC
      rw [if_pos hb]; rfl
    simp only [ok_bd]
    rcases h3 with ⟨h3, hb⟩ | ⟨h3, hb⟩
    · refine ok_cdt (by rw [ti_eq, h3, ti_0]) (way1 (by omega))
    · refine ok_cdf (by rw [ti_eq, h3, ti_0]; decide) ?_
      refine ok_call (c_parts hc3 e5 hk) ?_
      rintro r' v' ⟨rfl, hr'⟩
      rw [ok_cd]
      refine ⟨fun c => ?_, fun c => ?_⟩
      · rw [ti_eq, ti_0] at c
        rcases hr' with ⟨h1, h2⟩ | ⟨h1, h2⟩
        · omega
        · exact way0 (by rw [hb]; exact h2)
      · rw [ti_eq, ti_0] at c
        rcases hr' with ⟨h1, h2⟩ | ⟨h1, h2⟩
        · exact way1 (by rw [hb]; exact h2)
        · omega
  · rintro rec ⟨b0, b1, b2, b3, a4, a5, u⟩ ⟨e0, e1, e2, e3, e4, e5, f, hpr, f8, f9, hj⟩
    simp only at e0 e1 e2 e3 e4 e5 f hpr f8 f9 hj
    subst e0 e1 e2 e3
    refine ok_cdt (by rw [ti_le, e5, ti_6]; decide) ?_
    refine ok_ret.mpr ⟨f, hpr, ⟨rfl, fun s hs => ?_, f8, f9⟩, fun s hs => ?_, by rw [e4, pp_6]⟩
    · rw [(hj s hs).2]; rcases in6 hs with rfl | rfl | rfl | rfl | rfl | rfl <;> rfl
    · rw [(hj s hs).1]; unfold gx; rw [l6f_g hs]
  · refine ⟨rfl, rfl, rfl, rfl, rfl, rfl, Fr_sI (Fr_sI (Fr_sR (Fr_sR Fr.rf (by simp) r66a) (by simp) r66b) (by simp)) (by simp), ⟨?_, ?_⟩, ?_, ?_, fun j hj => absurd hj (by omega)⟩
    · show gR (sR (sR w 66 5 (some W)) 66 6 (some o)) 66 5 = some W
      rw [gR_nk (by decide), gR_eq]
    · show gR (sR (sR w 66 5 (some W)) 66 6 (some o)) 66 6 = some o
      rw [gR_eq]
    · show (gI (sI (sI (sR (sR w 66 5 (some W)) 66 6 (some o)) 66 8 0) 66 9 0) 66 8).toInt = 0
      rw [gI_nk (by decide), gI_eq]; rfl
    · show (gI (sI (sI (sR (sR w 66 5 (some W)) 66 6 (some o)) 66 8 0) 66 9 0) 66 9).toInt = 0
      rw [gI_eq]; rfl
end CBEG
