/-! ===== a payment in the class: what stands, a hand, what it pays ===== -/
abbrev ST : List Nat := [66, 67, 68, 69, 70, 71, 8, 92, 100, 108, 116, 124, 132, 150, 151, 152, 153, 154, 155, 156, 157, 158, 159, 160]
abbrev SC : List (Nat × Nat) := [(133, 32), (133, 33), (133, 34), (133, 38), (133, 39)]
/-- no place that a payment asked about writes -/
def nsc (a : Nat) : Prop := a ≠ 133 ∧ ¬ (66 ≤ a ∧ a ≤ 71) ∧ a ≠ 8 ∧ ¬ (92 ≤ a ∧ a ≤ 132 ∧ a % 8 = 4) ∧ ¬ (150 ≤ a ∧ a ≤ 160)
theorem nsc.o {a : Nat} (h : nsc a) : oP ST SC a := by
  obtain ⟨h1, h2, h3, h4, h5⟩ := h
  refine ⟨?_, ?_⟩
  · simp only [List.mem_cons, List.not_mem_nil, or_false]; omega
  · intro c hc
    simp only [List.mem_cons, List.not_mem_nil, or_false] at hc
    rcases hc with rfl | rfl | rfl | rfl | rfl <;> exact fun z => h1 z.symm
theorem T7 {tp : Nat} (hT : isT tp) : tp + 7 ∈ ST := by
  rcases hT with rfl | ⟨i, hi, rfl⟩
  · decide
  · rcases in6 hi with rfl | rfl | rfl | rfl | rfl | rfl <;> decide
def CP (w : gW) (W o p kd v pd tp : Nat) (pu ti ro : Nat → Int) (L : List Cl) : Prop :=
  Lay w ∧ isW W ∧ isT tp ∧ p < 4 ∧ gR w W 14 = some tp ∧ ((gI w tp 6).toInt = ((L.length : Nat) : Int) ∧ TC w tp 0 L ∧ WF L ∧ L.length ≤ 10 ∧ (gI w tp 1).toInt = mostF L ∧ ∀ s, s < 6 → (gI w (tp + 1) s).toInt = heftF L s) ∧
  (182 ≤ o ∧ (sh w o).1 = kd ∧ kd < 7 ∧ (gI w o 0).toInt = (kd : Int) ∧ (gI w o 1).toInt = (p : Int) ∧ (gI w o 2).toInt = (v : Int) ∧ v ≤ 9) ∧
  (∀ s, s < 6 → (gI w (W + 3 + p) s).toInt = pu s ∧ 0 ≤ pu s ∧ pu s ≤ 99) ∧ (∀ s, s < 6 → (gI w (W + 13) s).toInt = ti s ∧ 0 ≤ ti s ∧ ti s ≤ 99) ∧ (gI w (W + 12) p).toInt = (pd : Int) ∧ (∀ k, k < 4 → (gI w (W + 8 + p) k).toInt = ro k ∧ 0 ≤ ro k ∧ ro k ≤ 5)
theorem CP.sc {w u : gW} {W o p kd v pd tp : Nat} {pu ti ro : Nat → Int} {L : List Cl} (h : CP w W o p kd v pd tp pu ti ro L) (f : Fr ST SC w u) : CP u W o p kd v pd tp pu ti ro L := by
  obtain ⟨h1, hW, hT, hp, h5, ⟨g1, g2, g3, g4, g5, g6⟩, ⟨o1, o2, o3, o4, o5, o6, o7⟩, q1, q2, q3, q4⟩ := h
  have nT : ∀ d, d ≤ 6 → nsc (tp + d) := fun d hd => by
    rcases hT with rfl | ⟨i, hi, rfl⟩ <;> unfold nsc <;> omega
  have nW : ∀ d, d ≤ 18 → nsc (W + d) := fun d hd => by
    rcases hW with rfl | rfl <;> unfold nsc <;> omega
  have no : nsc o := by unfold nsc; omega
  have nW0 : nsc W := nW 0 (by omega)
  have nT0 : nsc tp := nT 0 (by omega)
  have e3 : W + 3 + p = W + (3 + p) := by omega
  have e8 : W + 8 + p = W + (8 + p) := by omega
  refine ⟨f.lay h1, hW, hT, hp, by rw [f.r nW0.o]; exact h5, ⟨by rw [f.i nT0.o]; exact g1, TC.c (fun d k _ h => f.i (nT d h).o) L 0 g2, g3, g4, by rw [f.i nT0.o]; exact g5, fun s hs => by rw [f.i (nT 1 (by omega)).o]; exact g6 s hs⟩, ⟨o1, by rw [f.s]; exact o2, o3, by rw [f.i no.o]; exact o4, by rw [f.i no.o]; exact o5, by rw [f.i no.o]; exact o6, o7⟩, fun s hs => ?_, fun s hs => ?_, ?_, fun k hk => ?_⟩
  · rw [e3, f.i (nW _ (by omega)).o, ← e3]; exact q1 s hs
  · rw [f.i (nW _ (by omega)).o]; exact q2 s hs
  · rw [f.i (nW _ (by omega)).o]; exact q3
  · rw [e8, f.i (nW _ (by omega)).o, ← e8]; exact q4 k hk
def HS (w : gW) (x : List Nat) : Prop := x.length = 6 ∧ (∀ s, s < 6 → (gI w 68 s).toInt = gx x s) ∧ (gI w 66 8).toInt = hsum x ∧ (gI w 66 9).toInt = hcnt x
def PR (w : gW) (W o : Nat) : Prop := gR w 66 5 = some W ∧ gR w 66 6 = some o
def h2 (x : List Nat) : Prop := ∀ s, x.getD s 0 ≤ 2
theorem h2.g {x : List Nat} (h : h2 x) (s : Nat) : 0 ≤ gx x s ∧ gx x s ≤ 2 := by
  have := h s
  unfold gx; omega
theorem h2.sum {x : List Nat} (h : h2 x) : 0 ≤ hsum x ∧ hsum x ≤ 176 ∧ 0 ≤ hcnt x ∧ hcnt x ≤ 12 ∧ hcnt x ≤ hsum x ∧ (0 < hsum x → 0 < hcnt x) := by
  have h0 := h.g 0; have h1 := h.g 1; have h2 := h.g 2; have h3 := h.g 3; have h4 := h.g 4; have h5 := h.g 5
  unfold hsum hcnt; omega
theorem HS.fr {w u : gW} {x : List Nat} {T : List Nat} {C : List (Nat × Nat)} (f : Fr T C w u) (h1 : oP T C 68) (h2 : oC T C 66 8) (h3 : oC T C 66 9) (h : HS w x) : HS u x := ⟨h.1, fun s hs => by rw [f.i h1]; exact h.2.1 s hs, by rw [f.c h2]; exact h.2.2.1, by rw [f.c h3]; exact h.2.2.2⟩
theorem PR.fr {w u : gW} {W o : Nat} {T : List Nat} {C : List (Nat × Nat)} (f : Fr T C w u) (h1 : oC T C 66 5) (h2 : oC T C 66 6) (h : PR w W o) : PR u W o := ⟨by rw [f.rc h1]; exact h.1, by rw [f.rc h2]; exact h.2⟩
section CPAY
variable {N W o p kd v pd tp s : Nat} {w : gW} {pu ti ro : Nat → Int} {L : List Cl} {x : List Nat}
theorem c_purseBehind {a1 : Int32} (b : Int) (hc : CP w W o p kd v pd tp pu ti ro L) (hpr : PR w W o) (hs : HS w x) (hx : h2 x) (h1 : a1.toInt = (s : Int)) (hs6 : s < 6) (hb : (gI w 69 s).toInt = b) (hb2 : 0 ≤ b ∧ b ≤ 999) :
    ok (f_Pm_purseBehind N 66 a1 w) (fun r u => u = w ∧ r.toInt = pu s - gx x s + b) := by
  obtain ⟨hL, hW, hT, hp, -, -, ⟨-, o2, o3, -, o5, -, -⟩, q1, -⟩ := hc
  obtain ⟨p0, -, p1, p2, -, -, -, s68, s69, -⟩ := lay_P hL
  obtain ⟨w0, -, w2, -, -, -, -, -, -, -, -, -, z2, -⟩ := lay_W hL hW
  obtain ⟨y1, y2, -⟩ := lay_Wp hL hW hp
  have hx' := hx.g s
  have q := q1 s hs6
  have e := hs.2.1 s hs6
  have n1 := nat_of h1
  have n2 := nat_of o5
  have g1 := ix_of (m := 6) h1 hs6
  have g2 := ix_of (m := 4) o5 hp
  rw [n1] at g1
  rw [n2] at g2
  have o3' : (sh w o).1 < 7 := by omega
  have t1 : (gI w (W + 3 + p) s - gI w 68 s).toInt = pu s - gx x s := by rw [ti_sub] <;> rw [q.1, e] <;> omega
  unfold f_Pm_purseBehind f_Pm_purseBehind_b0
  simp only [ok_gd, ok_bd, ok_rr1, ok_nr0, ok_nr1, ok_ret, true_and, and_true, not_false_eq_true, sh_sI, sh_sR, sh_sL, gR_sI, gR_sL, gI_sR, gI_sL, sh_cI, gR_cI, p0, p1, p2, s68, s69, hpr.1, hpr.2, w0, w2, z2, y1, y2, n1, n2, g1, g2, o3']
  rw [ti_add] <;> rw [t1, hb] <;> omega
theorem sum6 {f : Nat → Int} : ∃ S : Nat → Int, S 0 = 0 ∧ (∀ k, S (k + 1) = S k + f k) ∧ S 6 = f 0 + f 1 + f 2 + f 3 + f 4 + f 5 ∧ ∀ (B : Int) (k : Nat), (∀ j, j < k → 0 ≤ f j ∧ f j ≤ B) → 0 ≤ S k ∧ S k ≤ B * (k : Int) := by
  refine ⟨fun k => Nat.rec (motive := fun _ => Int) 0 (fun k r => r + f k) k, rfl, fun _ => rfl, ?_, ?_⟩
  · show 0 + f 0 + f 1 + f 2 + f 3 + f 4 + f 5 = _; omega
  · intro B k
    induction k with
    | zero => intro _; exact ⟨Int.le_refl _, by show (0 : Int) ≤ _; simp⟩
    | succ k ih =>
      intro h
      have h1 := ih (fun j hj => h j (by omega))
      have h2 := h k (by omega)
      have h3 : B * ((k + 1 : Nat) : Int) = B * (k : Int) + B := by rw [Int.natCast_succ, Int.mul_add, Int.mul_one]
      simp only at h1 ⊢
      rw [h3]; omega
theorem c_Wcoins {a1 : Int32} (hN : 1000 ≤ N) (hc : CP w W o p kd v pd tp pu ti ro L) (h1 : a1.toInt = (p : Int)) :
    ok (f_Wo_coins N W a1 w) (fun r u => u = w ∧ r.toInt = pu 0 + pu 1 + pu 2 + pu 3 + pu 4 + pu 5) := by
  obtain ⟨hL, hW, hT, hp, -, -, -, q1, -⟩ := hc
  obtain ⟨w0, -, w2, -, -, -, -, -, -, -, -, -, z2, -⟩ := lay_W hL hW
  obtain ⟨y1, y2, -⟩ := lay_Wp hL hW hp
  obtain ⟨S, S0, S1, S6, SB⟩ := sum6 (f := pu)
  have n1 := nat_of h1
  have g1 := ix_of (m := 4) h1 hp
  rw [n1] at g1
  unfold f_Wo_coins f_Wo_coins_b0 f_Wo_coins_l4
  rw [← S6]
  refine itr_up (fun k q => q.1 = W ∧ q.2.1 = a1 ∧ q.2.2.2.2 = w ∧ q.2.2.2.1.toInt = (k : Int) ∧ q.2.2.1.toInt = S k) 6 ?_ ?_ N 0 _ (by omega) ?_ (by omega)
  · rintro rec k ⟨b0, b1, a2, a3, u⟩ hk ⟨e0, e1, e2, e3, e4⟩ IH
    simp only at e0 e1 e2 e3 e4
    subst e0 e1 e2
    have B := SB 99 k (fun j hj => (q1 j (by omega)).2)
    have q := q1 k hk
    have n2 := nat_of e3
    have g2 := ix_of (m := 6) e3 hk
    rw [n2] at g2
    have k9 : k < 2147483647 := by omega
    have t1 : (a2 + gI u (b0 + 3 + p) k).toInt = S (k + 1) := by rw [S1, ti_add] <;> rw [q.1, e4] <;> omega
    refine ok_cdf (by rw [ti_le, e3, ti_6]; omega) ?_
    simp only [ok_gd, ok_bd, ok_rr1, ok_nr0, ok_nr1, ok_ret, true_and, and_true, not_false_eq_true, sh_sI, sh_sR, sh_sL, gR_sI, gR_sL, gI_sR, gI_sL, sh_cI, gR_cI, w0, w2, z2, y1, y2, n1, n2, g1, g2]
    refine IH _ ?_
    exact ⟨rfl, rfl, rfl, ti_p1 e3 k9, t1⟩
  · rintro rec ⟨b0, b1, a2, a3, u⟩ ⟨e0, e1, e2, e3, e4⟩
    simp only at e0 e1 e2 e3 e4
    subst e0 e1 e2
    refine ok_cdt (by rw [ti_le, e3, ti_6]; decide) ?_
    exact ok_ret.mpr ⟨rfl, e4⟩
  · exact ⟨rfl, rfl, rfl, rfl, by rw [S0]; rfl⟩
theorem c_coinsBehind {b : Nat → Int} (hN : 1000 ≤ N) (hc : CP w W o p kd v pd tp pu ti ro L) (hpr : PR w W o) (hs : HS w x) (hx : h2 x) (hb : ∀ s, s < 6 → (gI w 69 s).toInt = b s ∧ 0 ≤ b s ∧ b s ≤ 999) :
    ok (f_Pm_coinsBehind N 66 w) (fun r u => u = w ∧ r.toInt = pu 0 + pu 1 + pu 2 + pu 3 + pu 4 + pu 5 - hcnt x + (b 0 + b 1 + b 2 + b 3 + b 4 + b 5)) := by
  have hc' := hc
  obtain ⟨hL, hW, hT, hp, -, -, ⟨-, o2, o3, -, o5, -, -⟩, q1, -⟩ := hc'
  obtain ⟨p0, -, p1, p2, -, -, -, s68, s69, -⟩ := lay_P hL
  obtain ⟨w0, -⟩ := lay_W hL hW
  obtain ⟨S, S0, S1, S6, SB⟩ := sum6 (f := b)
  have o3' : (sh w o).1 < 7 := by omega
  have hsum := hx.sum
  have r0 := (q1 0 (by omega)).2; have r1 := (q1 1 (by omega)).2; have r2 := (q1 2 (by omega)).2; have r3 := (q1 3 (by omega)).2; have r4 := (q1 4 (by omega)).2; have r5 := (q1 5 (by omega)).2
  unfold f_Pm_coinsBehind f_Pm_coinsBehind_b0
  simp only [ok_gd, ok_bd, ok_rr1, ok_nr0, ok_nr1, ok_ret, true_and, and_true, not_false_eq_true, sh_sI, sh_sR, sh_sL, gR_sI, gR_sL, gI_sR, gI_sL, sh_cI, gR_cI, p0, hpr.1, hpr.2, w0, o3']
  refine ok_call (c_Wcoins hN hc o5) ?_
  rintro r u ⟨rfl, hr⟩
  simp only [ok_gd, ok_bd, ok_rr1, ok_nr0, ok_nr1, ok_ret, true_and, and_true, not_false_eq_true, sh_sI, sh_sR, sh_sL, gR_sI, gR_sL, gI_sR, gI_sL, sh_cI, gR_cI, p0]
  have t0 : (r - gI u 66 9).toInt = pu 0 + pu 1 + pu 2 + pu 3 + pu 4 + pu 5 - hcnt x + S 0 := by rw [S0, ti_sub] <;> rw [hr, hs.2.2.2] <;> omega
  rw [← S6]
  generalize r - gI u 66 9 = r2 at t0
  unfold f_Pm_coinsBehind_l22
  refine itr_up (fun k q => q.1 = 66 ∧ q.2.2.2 = u ∧ q.2.2.1.toInt = (k : Int) ∧ q.2.1.toInt = pu 0 + pu 1 + pu 2 + pu 3 + pu 4 + pu 5 - hcnt x + S k) 6 ?_ ?_ N 0 _ (by omega) ?_ (by omega)
  · rintro rec k ⟨b0, a1, a2, u'⟩ hk ⟨e0, e1, e2, e3⟩ IH
    simp only at e0 e1 e2 e3
    subst e0 e1
    have B := SB 999 k (fun j hj => (hb j (by omega)).2)
    have q := hb k hk
    have n2 := nat_of e2
    have g2 := ix_of (m := 6) e2 hk
    rw [n2] at g2
    have k9 : k < 2147483647 := by omega
    have t1 : (a1 + gI u' 69 k).toInt = pu 0 + pu 1 + pu 2 + pu 3 + pu 4 + pu 5 - hcnt x + S (k + 1) := by rw [S1, ti_add] <;> rw [q.1, e3] <;> omega
    refine ok_cdf (by rw [ti_le, e2, ti_6]; omega) ?_
    simp only [ok_gd, ok_bd, ok_rr1, ok_nr0, ok_nr1, ok_ret, true_and, and_true, not_false_eq_true, sh_sI, sh_sR, sh_sL, gR_sI, gR_sL, gI_sR, gI_sL, sh_cI, gR_cI, p0, p2, s69, n2, g2]
    refine IH _ ?_
    exact ⟨rfl, rfl, ti_p1 e2 k9, t1⟩
  · rintro rec ⟨b0, a1, a2, u'⟩ ⟨e0, e1, e2, e3⟩
    simp only at e0 e1 e2 e3
    subst e0 e1
    refine ok_cdt (by rw [ti_le, e2, ti_6]; decide) ?_
    exact ok_ret.mpr ⟨rfl, e3⟩
  · exact ⟨rfl, rfl, rfl, t0⟩
def wgt (L : List Cl) (f : Nat → Int) : Int := f 0 * heftF L 0 + f 1 * heftF L 1 + f 2 * heftF L 2 + f 3 * heftF L 3 + f 4 * heftF L 4 + f 5 * heftF L 5
theorem mul_in {a b A B : Int} (h1 : 0 ≤ a ∧ a ≤ A) (h2 : 0 ≤ b ∧ b ≤ B) : 0 ≤ a * b ∧ a * b ≤ A * B := ⟨Int.mul_nonneg h1.1 h2.1, Int.mul_le_mul h1.2 h2.2 h2.1 (by omega)⟩
theorem c_weightBehind {b : Nat → Int} (hN : 1000 ≤ N) (hc : CP w W o p kd v pd tp pu ti ro L) (hpr : PR w W o) (hs : HS w x) (hx : h2 x) (hb : ∀ s, s < 6 → (gI w 69 s).toInt = b s ∧ 0 ≤ b s ∧ b s ≤ 999) (hn : ∀ s, s < 6 → 0 ≤ pu s - gx x s) :
    ok (f_Pm_weightBehind N 66 w) (fun r u => u = w ∧ r.toInt = wgt L (fun s => pu s - gx x s + b s)) := by
  have hc' := hc
  obtain ⟨hL, hW, hT, hp, h14, ⟨-, -, g3, g4, -, g6⟩, -, q1, -⟩ := hc'
  obtain ⟨p0, -, p1, p2, -, -, -, s68, s69, -⟩ := lay_P hL
  obtain ⟨w0, -⟩ := lay_W hL hW
  obtain ⟨t0, t1, -, -, -, -, -, -, st1, -⟩ := lay_T hL hT
  obtain ⟨S, S0, S1, S6, SB⟩ := sum6 (f := fun s => (pu s - gx x s + b s) * heftF L s)
  have key : ∀ s, s < 6 → 0 ≤ (pu s - gx x s + b s) * heftF L s ∧ (pu s - gx x s + b s) * heftF L s ≤ 1098 * 990 := fun s h => by
    have h1 := heftF_in (s := s) g3 g4 h
    have h2 := (hb s h).2
    have h3 := hn s h
    have h4 := (q1 s h).2
    have h5 := hx.g s
    exact mul_in ⟨by omega, by omega⟩ h1
  unfold f_Pm_weightBehind f_Pm_weightBehind_b0 f_Pm_weightBehind_l4 wgt
  rw [← S6]
  refine itr_up (fun k q => q.1 = 66 ∧ q.2.2.2 = w ∧ q.2.2.1.toInt = (k : Int) ∧ q.2.1.toInt = S k) 6 ?_ ?_ N 0 _ (by omega) ?_ (by omega)
  · rintro rec k ⟨b0, a1, a2, u⟩ hk ⟨e0, e1, e2, e3⟩ IH
    simp only at e0 e1 e2 e3
    subst e0 e1
    have B := SB (1098 * 990) k (fun j hj => key j (by omega))
    have B1 := key k hk
    have n2 := nat_of e2
    have g2 := ix_of (m := 6) e2 hk
    rw [n2] at g2
    have k9 : k < 2147483647 := by omega
    refine ok_cdf (by rw [ti_le, e2, ti_6]; omega) ?_
    simp only [ok_gd, ok_bd, ok_rr1, ok_nr0, ok_nr1, ok_ret, true_and, and_true, not_false_eq_true, sh_sI, sh_sR, sh_sL, gR_sI, gR_sL, gI_sR, gI_sL, sh_cI, gR_cI, p0]
    refine ok_call (c_purseBehind (b k) hc hpr hs hx e2 hk (hb k hk).1 (hb k hk).2) ?_
    rintro r v ⟨rfl, hr⟩
    simp only [ok_gd, ok_bd, ok_rr1, ok_nr0, ok_nr1, ok_ret, true_and, and_true, not_false_eq_true, sh_sI, sh_sR, sh_sL, gR_sI, gR_sL, gI_sR, gI_sL, sh_cI, gR_cI, p0, hpr.1, w0, h14, t0, t1, st1, n2, g2]
    refine IH _ ?_
    refine ⟨rfl, rfl, ti_p1 e2 k9, ?_⟩
    have m1 : (r * gI v (tp + 1) k).toInt = (pu k - gx x k + b k) * heftF L k := by rw [ti_mul] <;> rw [hr, g6 k hk] <;> omega
    show (a1 + r * gI v (tp + 1) k).toInt = S (k + 1)
    rw [S1, ti_add] <;> rw [m1, e3] <;> omega
  · rintro rec ⟨b0, a1, a2, u⟩ ⟨e0, e1, e2, e3⟩
    simp only at e0 e1 e2 e3
    subst e0 e1
    refine ok_cdt (by rw [ti_le, e2, ti_6]; decide) ?_
    exact ok_ret.mpr ⟨rfl, e3⟩
  · exact ⟨rfl, rfl, rfl, by rw [S0]; rfl⟩
end CPAY
