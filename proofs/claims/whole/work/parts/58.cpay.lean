/-! ===== a payment in the class: does a hand pay, its rank ===== -/
theorem ti_div {a b : Int32} (ha : 0 ≤ a.toInt) (hb : 0 < b.toInt) : (a / b).toInt = a.toInt / b.toInt := by
  have h1 := J_in a
  have h2 := J_in b
  have h3 : a.toInt.tdiv b.toInt = a.toInt / b.toInt := Int.tdiv_eq_ediv_of_nonneg ha
  have h4 : 0 ≤ a.toInt / b.toInt := Int.ediv_nonneg ha (by omega)
  have h5 : a.toInt / b.toInt ≤ a.toInt := Int.ediv_le_self _ ha
  conv => lhs; rw [← J_toInt a, ← J_toInt b, J_div ⟨by omega, h1.2, hb, h2.2⟩]
  rw [h3, toInt_J ⟨by omega, by omega⟩]
theorem ti_min {a b : Int32} : (if a < b then a else b).toInt = min a.toInt b.toInt := by
  by_cases h : a < b
  · rw [if_pos h]; rw [ti_lt] at h; omega
  · rw [if_neg h]; rw [ti_lt] at h; omega
theorem ti_max0 {b : Int32} : (if (0 : Int32) < b then b else 0).toInt = max 0 b.toInt := by
  by_cases h : (0 : Int32) < b
  · rw [if_pos h]; rw [ti_lt, ti_0] at h; omega
  · rw [if_neg h]; rw [ti_lt, ti_0] at h; rw [ti_0]; omega
theorem tl_of {z : Int} (h : -9223372036854775808 ≤ z ∧ z < 9223372036854775808) : (Int64.ofInt z).toInt = z := Int64.toInt_ofInt_of_le h.1 h.2
theorem tl_add {a b : Int64} (h : -9223372036854775808 ≤ a.toInt + b.toInt ∧ a.toInt + b.toInt < 9223372036854775808) : (a + b).toInt = a.toInt + b.toInt := by
  have := tl_of h
  rw [Int64.ofInt_add, Int64.ofInt_toInt, Int64.ofInt_toInt] at this
  exact this
theorem tl_mul {a b : Int64} (h : -9223372036854775808 ≤ a.toInt * b.toInt ∧ a.toInt * b.toInt < 9223372036854775808) : (a * b).toInt = a.toInt * b.toInt := by
  have := tl_of h
  rw [Int64.ofInt_mul, Int64.ofInt_toInt, Int64.ofInt_toInt] at this
  exact this
theorem tl_i {a : Int32} : a.toInt64.toInt = a.toInt := Int32.toInt_toInt64 a
theorem tl_1000 : (1000 : Int64).toInt = 1000 := rfl
theorem tl_huge : (1000000000 : Int64).toInt = 1000000000 := rfl
theorem lg_i {x y : Int64} : (lg_cmp x y).toInt = if y.toInt < x.toInt then 1 else if x.toInt = y.toInt then 0 else -1 := by
  unfold lg_cmp
  by_cases h : y < x
  · rw [if_pos h, if_pos (Int64.lt_iff_toInt_lt.mp h)]; rfl
  · rw [if_neg h, if_neg (fun z => h (Int64.lt_iff_toInt_lt.mpr z))]
    by_cases e : x = y
    · rw [if_pos e, if_pos (by rw [e])]; rfl
    · rw [if_neg e, if_neg (fun z => e (Int64.toInt_inj.mp z))]; rfl
theorem lg_ge {x y : Int64} : (0 : Int32) ≤ lg_cmp x y ↔ y.toInt ≤ x.toInt := by
  rw [ti_le, ti_0, lg_i]; split
  · omega
  · split <;> omega
theorem lg_lt {x y : Int64} : lg_cmp x y < (0 : Int32) ↔ x.toInt < y.toInt := by
  rw [ti_lt, ti_0, lg_i]; split
  · omega
  · split <;> omega
theorem lg_eq {x y : Int64} : lg_cmp x y = (0 : Int32) ↔ x.toInt = y.toInt := by
  rw [ti_eq, ti_0, lg_i]; split
  · omega
  · split <;> omega
section CPAYS
variable {N W o p kd v pd tp s : Nat} {w : gW} {pu ti ro : Nat → Int} {L : List Cl} {x : List Nat}
theorem c_noOver {b : Nat → Int} (hN : 1000 ≤ N) (hc : CP w W o p kd v pd tp pu ti ro L) (hpr : PR w W o) (hs : HS w x) (hx : h2 x) (hb : ∀ s, s < 6 → (gI w 69 s).toInt = b s ∧ 0 ≤ b s ∧ b s ≤ 999) :
    ok (f_Pm_nothingOverflows N 66 w) (fun r u => u = w ∧ ((r.toInt = 1 ∧ ∀ s, s < 6 → tx ti x s - b s ≤ 99 ∧ pu s - gx x s + b s ≤ 99) ∨ (r.toInt = 0 ∧ ¬ ∀ s, s < 6 → tx ti x s - b s ≤ 99 ∧ pu s - gx x s + b s ≤ 99))) := by
  have hc' := hc
  obtain ⟨hL, hW, hT, hp, -, -, -, q1, q2, -⟩ := hc'
  obtain ⟨p0, -, p1, p2, -, -, -, s68, s69, -⟩ := lay_P hL
  obtain ⟨w0, -, -, -, -, w5, -, -, -, -, -, -, -, -, -, z13, -⟩ := lay_W hL hW
  unfold f_Pm_nothingOverflows f_Pm_nothingOverflows_b0 f_Pm_nothingOverflows_l2
  refine itr_up (fun k q => q.1 = 66 ∧ q.2.2 = w ∧ q.2.1.toInt = (k : Int) ∧ ∀ s, s < k → tx ti x s - b s ≤ 99 ∧ pu s - gx x s + b s ≤ 99) 6 ?_ ?_ N 0 _ (by omega) ?_ (by omega)
  · rintro rec k ⟨b0, a1, u⟩ hk ⟨e0, e1, e2, e3⟩ IH
    simp only at e0 e1 e2
    subst e0 e1
    have n1 := nat_of e2
    have g1 := ix_of (m := 6) e2 hk
    rw [n1] at g1
    have k9 : k < 2147483647 := by omega
    have e6 := hs.2.1 k hk
    have gk := hx.g k
    have t1 : (gI u (W + 13) k + gI u 68 k).toInt = tx ti x k := by rw [ti_add] <;> rw [(q2 k hk).1, e6] <;> (try have := (q2 k hk).2) <;> first | rfl | omega
    have t2 : (gI u (W + 13) k + gI u 68 k - gI u 69 k).toInt = tx ti x k - b k := by
      have h3 : 0 ≤ tx ti x k ∧ tx ti x k ≤ 101 := by have := (q2 k hk).2; unfold tx; omega
      have h4 := (hb k hk).2
      rw [ti_sub] <;> rw [t1, (hb k hk).1] <;> omega
    clear t1
    refine ok_cdf (by rw [ti_le, e2, ti_6]; omega) ?_
    simp only [ok_gd, ok_bd, ok_rr1, ok_nr0, ok_nr1, ok_ret, true_and, and_true, not_false_eq_true, sh_sI, sh_sR, sh_sL, gR_sI, gR_sL, gI_sR, gI_sL, sh_cI, gR_cI, p0, p1, p2, s68, s69, hpr.1, w0, w5, z13, n1, g1]
    rw [ok_cd]
    refine ⟨fun c => ?_, fun c => ?_⟩
    · rw [ti_lt, t2, ti_99] at c
      exact ok_ret.mpr ⟨rfl, Or.inr ⟨ti_0, fun z => absurd (z k hk).1 (by omega)⟩⟩
    · rw [ti_lt, t2, ti_99] at c
      refine ok_call (c_purseBehind (b k) hc hpr hs hx e2 hk (hb k hk).1 (hb k hk).2) ?_
      rintro r v ⟨rfl, hr⟩
      rw [ok_cd]
      refine ⟨fun d => ?_, fun d => ?_⟩
      · rw [ti_le, hr, ti_99] at d
        simp only [ok_bd]
        refine IH _ ?_
        refine ⟨rfl, rfl, ti_p1 e2 k9, fun s hs => ?_⟩
        by_cases e : s = k
        · rw [e]; exact ⟨by omega, d⟩
        · exact e3 s (by omega)
      · rw [ti_le, hr, ti_99] at d
        exact ok_ret.mpr ⟨rfl, Or.inr ⟨ti_0, fun z => absurd (z k hk).2 d⟩⟩
  · rintro rec ⟨b0, a1, u⟩ ⟨e0, e1, e2, e3⟩
    simp only at e0 e1 e2
    subst e0 e1
    refine ok_cdt (by rw [ti_le, e2, ti_6]; decide) ?_
    exact ok_ret.mpr ⟨rfl, Or.inl ⟨ti_1, e3⟩⟩
  · exact ⟨rfl, rfl, rfl, fun s h => absurd h (by omega)⟩
theorem CP.f69 {u : gW} (h : CP w W o p kd v pd tp pu ti ro L) (f : Fr [69] [] w u) : CP u W o p kd v pd tp pu ti ro L := h.sc (f.up (by simp) (by simp))
theorem c_paysL {D : Int} (hN : 1000 ≤ N) (hc : CP w W o p kd v pd tp pu ti ro L) (hpr : PR w W o) (hs : HS w x) (hx : h2 x) (hD : 0 ≤ D ∧ D ≤ 900) (F : (Nat × Int32 × Int32 × gW → Option (Int32 × gW)) → Nat × Int32 × Int32 × gW → Option (Int32 × gW)) (eF : ∀ rec q, F rec q = f_Pm_pays_b18 N rec q.1 q.2.1 q.2.2.1 q.2.2.2) :
    ∀ (k n : Nat) (u : gW) (a1 a2 : Int32), k ≤ 6 → k < n → a2.toInt = (k : Int) - 1 → a1.toInt = lft (tx ti x) D (6 - k) → Fr [69] [] w u → (∀ s, k ≤ s → s < 6 → (gI u 69 s).toInt = bck (tx ti x) D s) →
      ok (itr F n (66, a1, a2, u)) (fun r u' => Fr [69] [] w u' ∧ (∀ s, s < 6 → (gI u' 69 s).toInt = bck (tx ti x) D s) ∧ ((r.toInt = 1 ∧ lft (tx ti x) D 6 = 0 ∧ ∀ s, s < 6 → tx ti x s - bck (tx ti x) D s ≤ 99 ∧ pu s - gx x s + bck (tx ti x) D s ≤ 99) ∨ (r.toInt = 0 ∧ ¬ (lft (tx ti x) D 6 = 0 ∧ ∀ s, s < 6 → tx ti x s - bck (tx ti x) D s ≤ 99 ∧ pu s - gx x s + bck (tx ti x) D s ≤ 99)))) := by
  have ht : ∀ s, s < 6 → 0 ≤ tx ti x s := fun s h => by
    obtain ⟨-, -, -, -, -, -, -, -, q2, -⟩ := hc
    have := (q2 s h).2; have := hx.g s; unfold tx; omega
  intro k
  induction k with
  | zero =>
    intro n u a1 a2 _ hn h2 h1 f hb
    obtain ⟨n, rfl⟩ : ∃ j, n = j + 1 := ⟨n - 1, by omega⟩
    obtain ⟨p0, -⟩ := lay_P (f.lay hc.1)
    rw [itr_s, eF]
    unfold f_Pm_pays_b18
    refine ok_cdt (by rw [ti_lt, ti_0]; show a2.toInt < 0; omega) ?_
    rw [ok_cd]
    refine ⟨fun c => ?_, fun c => ?_⟩
    · rw [ti_eq, h1, ti_0] at c
      simp only [ok_gd, ok_bd, ok_rr1, ok_nr0, ok_nr1, ok_ret, true_and, and_true, not_false_eq_true, sh_sI, sh_sR, sh_sL, gR_sI, gR_sL, gI_sR, gI_sL, sh_cI, gR_cI, p0]
      refine ok_call (c_noOver (b := bck (tx ti x) D) hN (hc.f69 f) (hpr.fr f (by decide) (by decide)) (hs.fr f ⟨by decide, by simp⟩ (by decide) (by decide)) hx (fun s h => ⟨hb s (by omega) h, ?_⟩)) ?_
      · have := bck_in ht hD.1 h; omega
      · rintro r v ⟨rfl, hr⟩
        rw [ok_cd]
        refine ⟨fun d => ?_, fun d => ?_⟩
        · rw [ti_eq, ti_0] at d
          rcases hr with ⟨hr, hr'⟩ | ⟨hr, hr'⟩
          · omega
          · exact ok_ret.mpr ⟨f, fun s h => hb s (by omega) h, Or.inr ⟨ti_0, fun z => hr' z.2⟩⟩
        · rw [ti_eq, ti_0] at d
          rcases hr with ⟨hr, hr'⟩ | ⟨hr, hr'⟩
          · exact ok_ret.mpr ⟨f, fun s h => hb s (by omega) h, Or.inl ⟨ti_1, c, hr'⟩⟩
          · omega
    · rw [ti_eq, h1, ti_0] at c
      exact ok_ret.mpr ⟨f, fun s h => hb s (by omega) h, Or.inr ⟨ti_0, fun z => c z.1⟩⟩
  | succ k ih =>
    intro n u a1 a2 hk hn h2 h1 f hb
    obtain ⟨n, rfl⟩ : ∃ j, n = j + 1 := ⟨n - 1, by omega⟩
    have hcu := hc.f69 f
    have hpu := hpr.fr f (by decide) (by decide)
    have hsu := hs.fr f ⟨by decide, by simp⟩ (by decide) (by decide)
    obtain ⟨hL, hW, hT, hp, -, -, -, q1, q2, -⟩ := hcu
    obtain ⟨p0, -, p1, p2, -, -, -, s68, s69, -⟩ := lay_P hL
    obtain ⟨w0, -, -, -, -, w5, -, -, -, -, -, -, -, -, -, z13, -⟩ := lay_W hL hW
    have hk6 : k < 6 := by omega
    have h2' : a2.toInt = (k : Int) := by omega
    have n1 := nat_of h2'
    have g1 := ix_of (m := 6) h2' hk6
    rw [n1] at g1
    have wi := wo_in (s := k)
    have ew := gWorth_i hk6
    have e6 := hsu.2.1 k hk6
    have gk := hx.g k
    have li := lft_in ht hD.1 (6 - (k + 1)) (by omega)
    have bi := bck_in ht hD.1 hk6
    have h2m : a2.toInt - 1 = (k : Int) - 1 := by omega
    have e5 : 5 - k = 6 - (k + 1) := by omega
    have e7 : 6 - k = 6 - (k + 1) + 1 := by omega
    have e8 : 5 - (6 - (k + 1)) = k := by omega
    have hw0 : ¬ gWorth k = 0 := by rw [ti_eq, ew, ti_0]; omega
    have t1 : (gI u (W + 13) k + gI u 68 k).toInt = tx ti x k := by rw [ti_add] <;> rw [(q2 k hk6).1, e6] <;> (try have := (q2 k hk6).2) <;> first | rfl | omega
    have t2 : (a1 / gWorth k).toInt = lft (tx ti x) D (6 - (k + 1)) / wo k := by rw [ti_div (by omega) (by omega), h1, ew]
    have t3 : (if a1 / gWorth k < gI u (W + 13) k + gI u 68 k then a1 / gWorth k else gI u (W + 13) k + gI u 68 k).toInt = bck (tx ti x) D k := by
      rw [ti_min, t1, t2]; unfold bck; rw [e5]; exact Int.min_comm _ _
    clear t1 t2
    generalize hbk : (if a1 / gWorth k < gI u (W + 13) k + gI u 68 k then a1 / gWorth k else gI u (W + 13) k + gI u 68 k) = bk at t3
    rw [itr_s, eF]
    unfold f_Pm_pays_b18
    refine ok_cdf (by rw [ti_lt, ti_0]; show ¬ a2.toInt < 0; omega) ?_
    simp (disch := decide) only [ok_gd, ok_bd, ok_rr1, ok_nr0, ok_nr1, ok_ret, true_and, and_true, not_false_eq_true, sh_sI, sh_sR, sh_sL, gR_sI, gR_sL, gI_sR, gI_sL, sh_cI, gR_cI, gI_eq, p0, p1, p2, s68, s69, hpu.1, w0, w5, z13, n1, g1, hw0, hbk]
    have mb : 0 ≤ bck (tx ti x) D k * wo k ∧ bck (tx ti x) D k * wo k ≤ 1000 * 50 := mul_in ⟨bi.1, by omega⟩ ⟨by omega, wi.2⟩
    have t4 : (bk * gWorth k).toInt = bck (tx ti x) D k * wo k := by rw [ti_mul] <;> rw [t3, ew] <;> omega
    have t5 : (a1 - bk * gWorth k).toInt = lft (tx ti x) D (6 - k) := by
      rw [e7]; simp only [lft]; rw [e8]
      have : bck (tx ti x) D k = min (tx ti x k) (lft (tx ti x) D (6 - (k + 1)) / wo k) := by unfold bck; rw [e5]
      rw [← this, ti_sub] <;> rw [t4, h1] <;> omega
    refine ih n _ _ _ (by omega) (by omega) ?_ t5 (Fr_sI f (by simp)) (fun s h h6 => ?_)
    · rw [ti_addm1 (by omega)]; exact h2m
    · rw [gI_sI]
      by_cases e : s = k
      · rw [if_pos ⟨rfl, e⟩, e]; exact t3
      · rw [if_neg (fun z => e z.2)]; exact hb s (by omega) h6
theorem c_pays {price : Int} (hN : 1000 ≤ N) (hc : CP w W o p kd v pd tp pu ti ro L) (hpr : PR w W o) (hs : HS w x) (hx : h2 x) (hp : (gI w 66 7).toInt = price) (hp2 : 0 ≤ price ∧ price ≤ 500) :
    ok (f_Pm_pays N 66 w) (fun r u => Fr [69] [] w u ∧ ((r.toInt = 1 ∧ payA pu ti price x ∧ ∀ s, s < 6 → (gI u 69 s).toInt = bx ti x price s) ∨ (r.toInt = 0 ∧ ¬ payA pu ti price x))) := by
  obtain ⟨p0, -⟩ := lay_P hc.1
  have hsm := hx.sum
  have t1 : (gI w 66 8 - gI w 66 7).toInt = hsum x - price := by rw [ti_sub] <;> rw [hp, hs.2.2.1] <;> omega
  unfold f_Pm_pays f_Pm_pays_b0
  simp only [ok_gd, ok_bd, ok_rr1, ok_nr0, ok_nr1, ok_ret, true_and, and_true, not_false_eq_true, sh_sI, sh_sR, sh_sL, gR_sI, gR_sL, gI_sR, gI_sL, sh_cI, gR_cI, p0]
  rw [ok_cd]
  refine ⟨fun c => ?_, fun c => ?_⟩
  · rw [ti_le, ti_0, t1] at c
    refine (c_paysL (N := N) (D := hsum x - price) hN hc hpr hs hx (by omega) _ (fun _ _ => rfl) 6 N w _ 5 (by omega) (by omega) (by decide) t1 Fr.rf (fun s h h' => by omega)).mono ?_
    rintro r u ⟨f, hb, hr⟩
    refine ⟨f, ?_⟩
    rcases hr with ⟨h1, h2, h3⟩ | ⟨h1, h2⟩
    · exact Or.inl ⟨h1, ⟨by omega, h2, h3⟩, hb⟩
    · exact Or.inr ⟨h1, fun z => h2 ⟨z.2.1, z.2.2⟩⟩
  · rw [ti_le, ti_0, t1] at c
    exact ok_ret.mpr ⟨Fr.rf, Or.inr ⟨ti_0, fun z => c (by have := z.1; omega)⟩⟩
end CPAYS
