/-! ===== a payment in the class: on to the next hand ===== -/
def nxL (m : List Nat) : Nat → List Nat → Option (List Nat)
  | 0, _ => none
  | k + 1, x => if x.getD k 0 < m.getD k 0 then some (x.set k (x.getD k 0 + 1)) else nxL m k (x.set k 0)
theorem l6 {x : List Nat} (h : x.length = 6) : ∃ a b c d e f, x = [a, b, c, d, e, f] := by
  match x, h with
  | [a, b, c, d, e, f], _ => exact ⟨a, b, c, d, e, f, rfl⟩
theorem nx_eq {m x : List Nat} (hm : m.length = 6) (hx : x.length = 6) : nxt m x = nxL m 6 x := by
  obtain ⟨m0, m1, m2, m3, m4, m5, rfl⟩ := l6 hm
  obtain ⟨x0, x1, x2, x3, x4, x5, rfl⟩ := l6 hx
  simp only [nxt, nxL, List.getD_cons_succ, List.getD_cons_zero, List.set_cons_succ, List.set_cons_zero, List.length_cons, List.length_nil, List.replicate]
  by_cases h5 : x5 < m5
  · simp [h5]
  by_cases h4 : x4 < m4
  · simp [h5, h4]
  by_cases h3 : x3 < m3
  · simp [h5, h4, h3]
  by_cases h2 : x2 < m2
  · simp [h5, h4, h3, h2]
  by_cases h1 : x1 < m1
  · simp [h5, h4, h3, h2, h1]
  by_cases h0 : x0 < m0 <;> simp [h5, h4, h3, h2, h1, h0]
theorem gx_set {x : List Nat} {k j v : Nat} (hk : k < x.length) : gx (x.set k v) j = if j = k then (v : Int) else gx x j := by
  unfold gx
  by_cases e : j = k
  · subst e; simp [List.getD_eq_getElem?_getD, List.getElem?_set, hk]
  · rw [if_neg e]; congr 1; simp [List.getD_eq_getElem?_getD, List.getElem?_set, Ne.symm e, fun z => e (Eq.symm z)]
theorem hsum_set {x : List Nat} {k v : Nat} (hx : x.length = 6) (hk : k < 6) : hsum (x.set k v) = hsum x + ((v : Int) - gx x k) * wo k ∧ hcnt (x.set k v) = hcnt x + ((v : Int) - gx x k) := by
  unfold hsum hcnt
  simp only [gx_set (show k < x.length by omega)]
  rcases in6 hk with rfl | rfl | rfl | rfl | rfl | rfl <;> simp [wo] <;> omega
theorem h2_set {x : List Nat} {k v : Nat} (h : h2 x) (hv : v ≤ 2) : h2 (x.set k v) := fun s => by
  have := h s
  rw [List.getD_eq_getElem?_getD, List.getElem?_set] at *
  split
  · split <;> simp <;> omega
  · exact this
theorem wo_in {s : Nat} : 1 ≤ wo s ∧ wo s ≤ 50 := by
  match s with
  | 0 | 1 | 2 | 3 | 4 => decide
  | n + 5 => exact ⟨by show (1 : Int) ≤ 50; decide, by show (50 : Int) ≤ 50; decide⟩
section CADV
variable {N : Nat} {w : gW} {m : List Nat}
theorem c_advL (hL : Lay w) (hm : ∀ s, s < 6 → (gI w 67 s).toInt = gx m s) (hm2 : ∀ s, m.getD s 0 ≤ 2) (F : (Nat × Int32 × gW → Option (Unit × gW)) → Nat × Int32 × gW → Option (Unit × gW)) (eF : ∀ rec q, F rec q = f_Pm_advance_b2 N rec q.1 q.2.1 q.2.2) :
    ∀ (k n : Nat) (x : List Nat) (u : gW) (a1 : Int32), k ≤ 6 → k < n → a1.toInt = (k : Int) - 1 → Fr [68] [(66, 8), (66, 9)] w u → HS u x → h2 x →
      ok (itr F n (66, a1, u)) (fun _ u' => Fr [68] [(66, 8), (66, 9)] w u' ∧ ∀ y, nxL m k x = some y → HS u' y ∧ h2 y) := by
  intro k
  induction k with
  | zero =>
    intro n x u a1 _ hn h1 f _ _
    obtain ⟨n, rfl⟩ : ∃ j, n = j + 1 := ⟨n - 1, by omega⟩
    rw [itr_s, eF]
    unfold f_Pm_advance_b2
    refine ok_cdt (by rw [ti_lt, ti_0]; show a1.toInt < 0; omega) (ok_ret.mpr ⟨f, fun y h => by simp [nxL] at h⟩)
  | succ k ih =>
    intro n x u a1 hk hn h1 f hs hx
    obtain ⟨n, rfl⟩ : ∃ j, n = j + 1 := ⟨n - 1, by omega⟩
    have hLu := f.lay hL
    obtain ⟨p0, l0, p1, -, -, -, s67, s68, -⟩ := lay_P hLu
    have h1' : a1.toInt = (k : Int) := by omega
    have hk6 : k < 6 := by omega
    have n1 := nat_of h1'
    have g1 := ix_of (m := 6) h1' hk6
    rw [n1] at g1
    have e1 := hs.2.1 k hk6
    have e2 : (gI u 67 k).toInt = gx m k := by rw [f.i ⟨by decide, by simp⟩]; exact hm k hk6
    have gk := hx.g k
    have gm : gx m k ≤ 2 := by have := hm2 k; unfold gx; omega
    have sb := hx.sum
    have wi := wo_in (s := k)
    have ew := gWorth_i hk6
    have hm0 : a1.toInt - 1 = (k : Int) - 1 := by omega
    have hlen := hs.1
    rw [itr_s, eF]
    unfold f_Pm_advance_b2
    refine ok_cdf (by rw [ti_lt, ti_0]; show ¬ a1.toInt < 0; omega) ?_
    simp only [ok_gd, ok_bd, ok_rr1, ok_nr0, ok_nr1, ok_ret, true_and, and_true, not_false_eq_true, sh_sI, sh_sR, sh_sL, gR_sI, gR_sL, gI_sR, gI_sL, sh_cI, gR_cI, p0, l0, p1, s67, s68, n1, g1]
    have m1 : (gI u 68 k * gWorth k).toInt = gx x k * wo k := by
      have : gx x k * wo k ≤ 2 * 50 := (mul_in gk ⟨by omega, wi.2⟩).2
      have : 0 ≤ gx x k * wo k := (mul_in gk ⟨by omega, wi.2⟩).1
      rw [ti_mul] <;> rw [e1, ew] <;> omega
    have m1b : 0 ≤ gx x k * wo k ∧ gx x k * wo k ≤ 2 * 50 := mul_in gk ⟨by omega, wi.2⟩
    by_cases c : gx m k ≤ gx x k
    · have hset := hsum_set (v := 0) hlen hk6
      refine ok_cdt (by rw [ti_le, e1, e2]; exact c) ?_
      simp (disch := decide) only [ok_gd, ok_bd, ok_rr1, ok_nr0, ok_nr1, ok_ret, true_and, and_true, not_false_eq_true, sh_sI, sh_sR, sh_sL, gR_sI, gR_sL, gI_sR, gI_sL, sh_cI, gR_cI, gI_ne, gI_nk, gI_eq, p0, l0, p1, s67, s68, n1, g1]
      refine (ih n (x.set k 0) _ _ (by omega) (by omega) ?_ (Fr_sI (Fr_sI (Fr_sI f (by simp)) (by simp)) (by simp)) ⟨by rw [List.length_set]; exact hlen, fun s hs6 => ?_, ?_, ?_⟩ (h2_set hx (by omega))).mono ?_
      · rw [ti_addm1 (by omega)]; exact hm0
      · rw [gx_set (by omega), gI_sI]
        by_cases e : s = k
        · rw [if_pos ⟨rfl, e⟩, if_pos e]; rfl
        · rw [if_neg (fun z => e z.2), if_neg e, gI_ne (by decide), gI_ne (by decide)]; exact hs.2.1 s hs6
      · rw [gI_ne (by decide), gI_nk (by decide), gI_eq, hset.1]
        have z1 : (((0 : Nat) : Int) - gx x k) * wo k = - (gx x k * wo k) := by rw [Int.natCast_zero, Int.zero_sub, Int.neg_mul]
        rw [z1, ti_sub] <;> rw [m1, hs.2.2.1] <;> omega
      · rw [gI_ne (by decide), gI_eq, hset.2, ti_sub] <;> rw [e1, hs.2.2.2] <;> omega
      · rintro r u' ⟨f', h⟩
        refine ⟨f', fun y hy => h y ?_⟩
        simp only [nxL] at hy
        rw [if_neg (by unfold gx at c; omega)] at hy
        exact hy
    · have hset := hsum_set (v := x.getD k 0 + 1) hlen hk6
      have gz : ((x.getD k 0 + 1 : Nat) : Int) - gx x k = 1 := by unfold gx; omega
      rw [gz, Int.one_mul] at hset
      refine ok_cdf (by rw [ti_le, e1, e2]; exact c) ?_
      simp (disch := decide) only [ok_gd, ok_bd, ok_rr1, ok_nr0, ok_nr1, ok_ret, true_and, and_true, not_false_eq_true, sh_sI, sh_sR, sh_sL, gR_sI, gR_sL, gI_sR, gI_sL, sh_cI, gR_cI, gI_ne, gI_nk, gI_eq, p0, l0, p1, s67, s68, n1, g1]
      refine ⟨Fr_sI (Fr_sI (Fr_sI f (by simp)) (by simp)) (by simp), fun y hy => ?_⟩
      simp only [nxL] at hy
      rw [if_pos (by unfold gx at c; omega)] at hy
      cases hy
      refine ⟨⟨by rw [List.length_set]; exact hlen, fun s hs6 => ?_, ?_, ?_⟩, h2_set hx (by unfold gx at c gm; omega)⟩
      · rw [gx_set (by omega), gI_ne (by decide), gI_ne (by decide), gI_sI]
        by_cases e : s = k
        · rw [if_pos ⟨rfl, e⟩, if_pos e, ti_add1 (by omega), e1]; unfold gx; omega
        · rw [if_neg (fun z => e z.2), if_neg e]; exact hs.2.1 s hs6
      · rw [gI_nk (by decide), gI_eq, hset.1]
        rw [ti_add] <;> rw [ew, hs.2.2.1] <;> omega
      · rw [gI_eq, hset.2, ti_add1 (by rw [hs.2.2.2]; omega), hs.2.2.2]
theorem c_advance {x : List Nat} (hN : 1000 ≤ N) (hL : Lay w) (hml : m.length = 6) (hm : ∀ s, s < 6 → (gI w 67 s).toInt = gx m s) (hm2 : ∀ s, m.getD s 0 ≤ 2) (hs : HS w x) (hx : h2 x) :
    ok (f_Pm_advance N 66 w) (fun _ u => Fr [68] [(66, 8), (66, 9)] w u ∧ ∀ y, nxt m x = some y → HS u y ∧ h2 y) := by
  have := c_advL (N := N) hL hm hm2 _ (fun _ _ => rfl) 6 N x w 5 (by omega) (by omega) (by decide) Fr.rf hs hx
  rw [nx_eq hml hs.1]
  exact this
end CADV
