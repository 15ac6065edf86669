/-! ===== a payment in the model: does a hand pay =====  -/
section MPAYS
variable {N p kd v pd b : Nat} {w : gW} {pu ti ro : Nat → Int} {L : List Cl} {x : List Nat} {a1 a2 : Int32} {price : Int}
theorem MP.f153 {u : gW} (h : MP w p kd v pd b pu ti ro L) (f : Fr [153] [] w u) : MP u p kd v pd b pu ti ro L := h.sc (f.up (by simp) (by simp))
set_option maxHeartbeats 1000000 in
theorem c_mpaysL {D : Int} (hc : MP w p kd v pd b pu ti ro L) (hs : MH w x) (hx : h2 x) (hD : 0 ≤ D ∧ D ≤ 900) (ha1 : a1.toInt = (p : Int)) (F : (Nat × Int32 × Int32 × Int32 × gW → Option (Int32 × gW)) → Nat × Int32 × Int32 × Int32 × gW → Option (Int32 × gW)) (eF : ∀ rec q, F rec q = f_M_pays_b20 N rec q.1 q.2.1 q.2.2.1 q.2.2.2.1 q.2.2.2.2) :
    ∀ (k n : Nat) (u : gW) (a3 a4 : Int32), k ≤ 6 → k < n → a4.toInt = (k : Int) - 1 → a3.toInt = lft (tx ti x) D (6 - k) → Fr [153] [] w u → (∀ s, k ≤ s → s < 6 → (gI u 153 s).toInt = bck (tx ti x) D s ∧ tx ti x s - bck (tx ti x) D s ≤ 99 ∧ pu s - gx x s + bck (tx ti x) D s ≤ 99) →
      ok (itr F n (133, a1, a3, a4, u)) (fun r u' => Fr [153] [] w u' ∧ ((r.toInt = 1 ∧ lft (tx ti x) D 6 = 0 ∧ ∀ s, s < 6 → (gI u' 153 s).toInt = bck (tx ti x) D s ∧ tx ti x s - bck (tx ti x) D s ≤ 99 ∧ pu s - gx x s + bck (tx ti x) D s ≤ 99) ∨ (r.toInt = 0 ∧ ¬ (lft (tx ti x) D 6 = 0 ∧ ∀ s, s < 6 → tx ti x s - bck (tx ti x) D s ≤ 99 ∧ pu s - gx x s + bck (tx ti x) D s ≤ 99)))) := by
  have ht : ∀ s, s < 6 → 0 ≤ tx ti x s := fun s h => by
    obtain ⟨-, -, -, -, -, -, -, q2, -⟩ := hc
    have := (q2 s h).2; have := hx.g s; unfold tx; omega
  intro k
  induction k with
  | zero =>
    intro n u a3 a4 _ hn h2 h1 f hb
    obtain ⟨n, rfl⟩ : ∃ j, n = j + 1 := ⟨n - 1, by omega⟩
    rw [itr_s, eF]
    unfold f_M_pays_b20
    refine ok_cdt (by rw [ti_lt, ti_0]; show a4.toInt < 0; omega) ?_
    rw [ok_cd]
    refine ⟨fun c => ?_, fun c => ?_⟩
    · rw [ti_eq, h1, ti_0] at c
      exact ok_ret.mpr ⟨f, Or.inl ⟨ti_1, c, fun s h => hb s (by omega) h⟩⟩
    · rw [ti_eq, h1, ti_0] at c
      exact ok_ret.mpr ⟨f, Or.inr ⟨ti_0, fun z => c z.1⟩⟩
  | succ k ih =>
    intro n u a3 a4 hk hn h2 h1 f hb
    obtain ⟨n, rfl⟩ : ∃ j, n = j + 1 := ⟨n - 1, by omega⟩
    have hsu := hs.fr f ⟨by decide, by simp⟩
    obtain ⟨hL, -, hwr, -, hp, -, q1, q2, -⟩ := hc.f153 f
    have hm := lay_M hL
    have hk6 : k < 6 := by omega
    have h2' : a4.toInt = (k : Int) := by omega
    have n1 := nat_of h2'
    have g1 := ix_of (m := 6) h2' hk6
    rw [n1] at g1
    have e6p := ti_6p ha1 hp h2' (by omega)
    have n6 := nat_of e6p
    have g6 := ix_of (m := 24) e6p (by omega)
    rw [n6] at g6
    clear e6p
    have wi := wo_in (s := k)
    have ew := hwr k hk6
    have e6 := hsu.2 k hk6
    have gk := hx.g k
    have li := lft_in ht hD.1 (6 - (k + 1)) (by omega)
    have bi := bck_in ht hD.1 hk6
    have h2m : a4.toInt - 1 = (k : Int) - 1 := by omega
    have e5 : 5 - k = 6 - (k + 1) := by omega
    have e7 : 6 - k = 6 - (k + 1) + 1 := by omega
    have e8 : 5 - (6 - (k + 1)) = k := by omega
    have hw0 : ¬ gI u 134 k = 0 := by rw [ti_eq, ew, ti_0]; omega
    have qk1 := (q1 k hk6).2
    have qk2 := (q2 k hk6).2
    have q1e := (q1 k hk6).1
    have txk : 0 ≤ tx ti x k ∧ tx ti x k ≤ 101 := by unfold tx; omega
    have t1 : (gI u 140 k + gI u 152 k).toInt = tx ti x k := by
      have e : tx ti x k = ti k + gx x k := rfl
      rw [e, ti_add] <;> rw [(q2 k hk6).1, e6] <;> omega
    have t2 : (a3 / gI u 134 k).toInt = lft (tx ti x) D (6 - (k + 1)) / wo k := by rw [ti_div (by omega) (by omega), h1, ew]
    have bq : bck (tx ti x) D k = min (tx ti x k) (lft (tx ti x) D (6 - (k + 1)) / wo k) := by unfold bck; rw [e5]
    generalize hA : gI u 140 k + gI u 152 k = A at t1
    generalize hBk : a3 / gI u 134 k = Bk at t2
    have mb : 0 ≤ bck (tx ti x) D k * wo k ∧ bck (tx ti x) D k * wo k ≤ 1000 * 50 := mul_in ⟨bi.1, by omega⟩ ⟨by omega, wi.2⟩
    have fin : ∀ z : Int32, z.toInt = bck (tx ti x) D k → ok (f_M_pays_b73 N (itr F n) 133 a1 a3 a4 A z a4 153 u) (fun r u' => Fr [153] [] w u' ∧ ((r.toInt = 1 ∧ lft (tx ti x) D 6 = 0 ∧ ∀ s, s < 6 → (gI u' 153 s).toInt = bck (tx ti x) D s ∧ tx ti x s - bck (tx ti x) D s ≤ 99 ∧ pu s - gx x s + bck (tx ti x) D s ≤ 99) ∨ (r.toInt = 0 ∧ ¬ (lft (tx ti x) D 6 = 0 ∧ ∀ s, s < 6 → tx ti x s - bck (tx ti x) D s ≤ 99 ∧ pu s - gx x s + bck (tx ti x) D s ≤ 99)))) := by
      intro z hz
      unfold f_M_pays_b73
      simp (disch := decide) only [ok_gd, ok_bd, ok_rr1, ok_nr0, ok_nr1, ok_ret, true_and, and_true, not_false_eq_true, sh_sI, sh_sR, sh_sL, gR_sI, gR_sL, gI_sR, gI_sL, sh_cI, gR_cI, gI_eq, gI_ne, hm, n1, g1, n6, g6]
      have t3 : (A - z).toInt = tx ti x k - bck (tx ti x) D k := by rw [ti_sub] <;> rw [t1, hz] <;> omega
      rw [ok_cd]
      refine ⟨fun c => ?_, fun c => ?_⟩
      · rw [ti_lt, t3, ti_99] at c
        exact ok_ret.mpr ⟨Fr_sI f (by simp), Or.inr ⟨ti_0, fun y => absurd (y.2 k hk6).1 (by omega)⟩⟩
      · rw [ti_lt, t3, ti_99] at c
        clear t3
        have t4 : (gI u 139 (6 * p + k) - gI u 152 k).toInt = pu k - gx x k := by rw [ti_sub] <;> rw [q1e, e6] <;> omega
        have t5 : (gI u 139 (6 * p + k) - gI u 152 k + z).toInt = pu k - gx x k + bck (tx ti x) D k := by rw [ti_add] <;> rw [t4, hz] <;> omega
        clear t4
        simp (disch := decide) only [ok_gd, ok_bd, ok_rr1, ok_nr0, ok_nr1, ok_ret, true_and, and_true, not_false_eq_true, sh_sI, sh_sR, sh_sL, gR_sI, gR_sL, gI_sR, gI_sL, sh_cI, gR_cI, gI_eq, gI_ne, hm, n1, g1, n6, g6]
        rw [ok_cd]
        refine ⟨fun d => ?_, fun d => ?_⟩
        · rw [ti_le, t5, ti_99] at d
          clear t5
          have t6 : (z * gI u 134 k).toInt = bck (tx ti x) D k * wo k := by rw [ti_mul] <;> rw [hz, ew] <;> omega
          have t7 : (a3 - z * gI u 134 k).toInt = lft (tx ti x) D (6 - k) := by
            rw [e7]; simp only [lft]; rw [e8, ← bq, ti_sub] <;> rw [t6, h1] <;> omega
          clear t6
          simp only [ok_bd]
          refine ih n _ _ _ (by omega) (by omega) ?_ t7 (Fr_sI f (by simp)) (fun s h h6 => ?_)
          · clear t7; rw [ti_addm1 (by omega)]; exact h2m
          · rw [gI_sI]
            by_cases e : s = k
            · rw [if_pos ⟨rfl, e⟩, e]; exact ⟨hz, by omega, d⟩
            · rw [if_neg (fun z => e z.2)]; exact hb s (by omega) h6
        · rw [ti_le, t5, ti_99] at d
          exact ok_ret.mpr ⟨Fr_sI f (by simp), Or.inr ⟨ti_0, fun y => absurd (y.2 k hk6).2 d⟩⟩
    rw [itr_s, eF]
    unfold f_M_pays_b20
    refine ok_cdf (by rw [ti_lt, ti_0]; show ¬ a4.toInt < 0; omega) ?_
    simp only [ok_gd, ok_bd, ok_rr1, ok_nr0, ok_nr1, ok_ret, true_and, and_true, not_false_eq_true, sh_sI, sh_sR, sh_sL, gR_sI, gR_sL, gI_sR, gI_sL, sh_cI, gR_cI, hm, n1, g1, hw0, hA, hBk]
    rw [ok_cd]
    refine ⟨fun c => ?_, fun c => ?_⟩
    · rw [ti_le, t1, t2] at c
      exact fin A (by rw [t1, bq]; omega)
    · rw [ti_le, t1, t2] at c
      exact fin Bk (by rw [t2, bq]; omega)
theorem c_mpays (hN : 1000 ≤ N) (hc : MP w p kd v pd b pu ti ro L) (hs : MH w x) (hx : h2 x) (ha1 : a1.toInt = (p : Int)) (ha2 : a2.toInt = price) (hp2 : 0 ≤ price ∧ price ≤ 500) :
    ok (f_M_pays N 133 a1 a2 w) (fun r u => Fr [153] [(133, 32), (133, 33)] w u ∧ MS u x ∧ ((r.toInt = 1 ∧ payA pu ti price x ∧ ∀ s, s < 6 → (gI u 153 s).toInt = bx ti x price s) ∨ (r.toInt = 0 ∧ ¬ payA pu ti price x))) := by
  have hc0 := hc
  obtain ⟨hL, -, hwr, -, hp, -⟩ := hc
  have hm := lay_M hL
  have hsm := hx.sum
  unfold f_M_pays f_M_pays_b0
  simp only [ok_gd, ok_bd, ok_rr1, ok_nr0, ok_nr1, ok_ret, true_and, and_true, not_false_eq_true, sh_sI, sh_sR, sh_sL, gR_sI, gR_sL, gI_sR, gI_sL, sh_cI, gR_cI, hm]
  refine ok_call (c_laySum hN hL hwr hs hx) ?_
  rintro - u ⟨f, hms⟩
  have hm := lay_M (f.lay hL)
  simp only [ok_gd, ok_bd, ok_rr1, ok_nr0, ok_nr1, ok_ret, true_and, and_true, not_false_eq_true, sh_sI, sh_sR, sh_sL, gR_sI, gR_sL, gI_sR, gI_sL, sh_cI, gR_cI, hm]
  have t1 : (gI u 133 32 - a2).toInt = hsum x - price := by rw [ti_sub] <;> rw [ha2, hms.1] <;> omega
  have fsc : Fr ST SC w u := f.up (by simp) (by simp)
  rw [ok_cd]
  refine ⟨fun c => ?_, fun c => ?_⟩
  · rw [ti_le, ti_0, t1] at c
    refine (c_mpaysL (N := N) (D := hsum x - price) (hc0.sc fsc) (hs.fr f ⟨by simp, by simp⟩) hx (by omega) ha1 _ (fun _ _ => rfl) 6 N u _ 5 (by omega) (by omega) (by decide) t1 Fr.rf (fun s h h' => by omega)).mono ?_
    rintro r u' ⟨f', hr⟩
    refine ⟨(f.up (by simp) (by simp)).tr (f'.up (by simp) (by simp)), ⟨by rw [f'.c ⟨by decide, by simp⟩]; exact hms.1, by rw [f'.c ⟨by decide, by simp⟩]; exact hms.2⟩, ?_⟩
    rcases hr with ⟨h1, h2, h3⟩ | ⟨h1, h2⟩
    · exact Or.inl ⟨h1, ⟨by omega, h2, fun s hs => (h3 s hs).2⟩, fun s hs => (h3 s hs).1⟩
    · exact Or.inr ⟨h1, fun z => h2 ⟨z.2.1, z.2.2⟩⟩
  · rw [ti_le, ti_0, t1] at c
    exact ok_ret.mpr ⟨f.up (by simp) (by simp), hms, Or.inr ⟨ti_0, fun z => c (by have := z.1; omega)⟩⟩
end MPAYS
