/-! ===== a town's text, read by the class: tests =====  -/
def byt (a j : Nat) : Int := ((gByt.getD a []).getD j 0).toInt
theorem i8_128 : ∀ v : Nat, v < 128 → (nI v).toInt8.toInt32 = nI v := by decide +kernel
theorem c16_128 : ∀ v : Nat, v < 128 → ((nI v).toUInt32 % 65536).toInt32 = nI v := by decide +kernel
theorem i8_of {x : Int32} (h : 0 ≤ x.toInt ∧ x.toInt ≤ 127) : x.toInt8.toInt32 = x := by
  obtain ⟨v, hv⟩ : ∃ v : Nat, x.toInt = (v : Int) := ⟨x.toInt.toNat, by omega⟩
  rw [nI_ti hv]; exact i8_128 v (by omega)
theorem c16_of {x : Int32} (h : 0 ≤ x.toInt ∧ x.toInt ≤ 127) : (x.toUInt32 % 65536).toInt32 = x := by
  obtain ⟨v, hv⟩ : ∃ v : Nat, x.toInt = (v : Int) := ⟨x.toInt.toNat, by omega⟩
  rw [nI_ti hv]; exact c16_128 v (by omega)
/-- where x stands first among the first m bytes of string a -/
def idxA (a m : Nat) (x r : Int) : Prop := (∃ j, j < m ∧ byt a j = x ∧ (∀ k, k < j → byt a k ≠ x) ∧ r = (j : Int)) ∨ ((∀ j, j < m → byt a j ≠ x) ∧ r = -1)
section STR
variable {N tp n i k a m : Nat} {w u : gW} {t : Nat → Int} {a1 x : Int32}
theorem c_idxChar {a3 a5 : Int32} (hN : 1000 ≤ N) (ha : a < 5) (hm : gLen.getD a 0 = m) (hm9 : m < 10) (h3 : a3.toInt = (m : Int)) (h5 : a5 = 0) (hx : 0 ≤ x.toInt ∧ x.toInt ≤ 127) : ok (f_L1_indexOfChar N a x a5 a3 w) (fun r u => u = w ∧ idxA a m x.toInt r.toInt) := by
  unfold f_L1_indexOfChar f_L1_indexOfChar_b0 f_L1_indexOfChar_l7
  rw [ok_bd, i8_of hx, h5]
  refine itr_up (fun k q => q.1 = a ∧ q.2.1 = a3 ∧ q.2.2.1 = x ∧ q.2.2.2.2 = w ∧ q.2.2.2.1.toInt = (k : Int) ∧ ∀ j, j < k → byt a j ≠ x.toInt) m ?_ ?_ N 0 _ (by omega) ?_ (by omega)
  · rintro rec k ⟨b0, b1, b2, a5, u⟩ hk ⟨e0, e1, e2, e3, e4, e5⟩ IH
    simp only at e0 e1 e2 e3 e4
    subst e0 e1 e2 e3
    have n1 := nat_of e4
    have g1 := ix_of (m := m) e4 hk
    rw [← hm, n1] at g1
    show ok (f_L1_indexOfChar_b7 N rec b0 b1 b2 a5 u) _
    unfold f_L1_indexOfChar_b7
    refine ok_cdf (by rw [ti_le, h3, e4]; omega) ?_
    simp only [ok_gd, ok_bd, ha, true_and, n1]
    refine ⟨g1, ?_⟩
    rw [ok_cd]
    refine ⟨fun e => ?_, fun e => ?_⟩
    · exact ok_ret.mpr ⟨rfl, Or.inl ⟨k, hk, by rw [← e]; rfl, e5, e4⟩⟩
    · rw [ok_bd]
      refine IH _ ⟨rfl, rfl, rfl, rfl, ti_p1 e4 (by omega), fun j hj => ?_⟩
      by_cases ej : j = k
      · rw [ej]; exact fun z => e (ti_eq.mpr z)
      · exact e5 j (by omega)
  · rintro rec ⟨b0, b1, b2, a5, u⟩ ⟨e0, e1, e2, e3, e4, e5⟩
    simp only at e0 e1 e2 e3 e4
    subst e0 e1 e2 e3
    show ok (f_L1_indexOfChar_b7 N rec b0 b1 b2 a5 u) _
    unfold f_L1_indexOfChar_b7
    exact ok_cdt (by rw [ti_le, h3, e4]; omega) (ok_ret.mpr ⟨rfl, Or.inr ⟨e5, rfl⟩⟩)
  · exact ⟨rfl, rfl, rfl, rfl, rfl, fun j hj => by omega⟩
theorem c_Slen (ha : a < 5) (hm : gLen.getD a 0 = m) (hm9 : m < 10) : ok (f_S_length N a w) (fun r u => u = w ∧ r.toInt = (m : Int)) := by
  have e1 : ¬ (((1 : Int32) : Int32) = 0) := by decide
  have s0 : ∀ v : Nat, v < 10 → (Int32.ofNat v >>> ((0 : Int32) &&& 31)).toInt = (v : Int) := by decide +kernel
  unfold f_S_length f_S_length_b0
  simp only [ok_gd, ok_bd, ha, true_and]
  unfold f_S_coder f_S_coder_b0
  refine ok_call (P := fun r u => u = w ∧ r = 0) (ok_cdf e1 ?_) ?_
  · simp only [ok_gd, ha, true_and]
    exact ok_ret.mpr ⟨rfl, rfl⟩
  rintro r u ⟨rfl, rfl⟩
  simp only [ok_bd]
  exact ok_ret.mpr ⟨rfl, by rw [hm]; exact s0 m hm9⟩
theorem c_idxOf (hN : 1000 ≤ N) (ha : a < 5) (hm : gLen.getD a 0 = m) (hm9 : 0 < m ∧ m < 10) (hx : 0 ≤ x.toInt ∧ x.toInt ≤ 127) : ok (f_S_indexOfi N a x w) (fun r u => u = w ∧ idxA a m x.toInt r.toInt) := by
  have e1 : ¬ (((1 : Int32) : Int32) = 0) := by decide
  have e2 : (((0 : Int32) : Int32) = 0) := by decide
  have e255 : (255 : Int32).toInt = 255 := rfl
  have ofn : ∀ v : Nat, v < 10 → (Int32.ofNat v).toInt = (v : Int) := by decide +kernel
  unfold f_S_indexOfi f_S_indexOfi_b0 f_S_indexOfii f_S_indexOfii_b0
  simp only [ok_gd, ha, true_and]
  refine ok_call (P := fun r u => u = w ∧ idxA a m x.toInt r.toInt) ?_ (fun r u h => ok_ret.mpr h)
  unfold f_S_isLatin1 f_S_isLatin1_b0
  refine ok_gdt trivial ?_
  refine ok_call (P := fun r u => u = w ∧ r = 1) (ok_cdf e1 ?_) ?_
  · simp only [ok_gd, ha, true_and]
    exact ok_cdt trivial (ok_ret.mpr ⟨rfl, rfl⟩)
  rintro r u ⟨rfl, rfl⟩
  refine ok_cdf (by decide) ?_
  refine ok_call (c_Slen ha hm hm9.2) ?_
  rintro r2 u2 ⟨rfl, hr2⟩
  refine ok_call (P := fun r u => u = u2 ∧ idxA a m x.toInt r.toInt) ?_ (fun r u h => ok_ret.mpr h)
  unfold f_L1_indexOf f_L1_indexOf_b0 f_L1_canEncode f_L1_canEncode_b0
  refine ok_call (P := fun r u => u = u2 ∧ r = 1) (ok_cdf (by rw [ti_lt, ti_0]; omega) (ok_cdf (by rw [ti_lt, e255]; omega) (ok_ret.mpr ⟨rfl, rfl⟩))) ?_
  rintro r3 u3 ⟨rfl, rfl⟩
  refine ok_cdf (by decide) ?_
  have z0 : (if (0 : Int32) < (0 : Int32) then (0 : Int32) else (0 : Int32)) = 0 := by decide
  have z1 : (if Int32.ofNat (gLen.getD a 0) < r2 then Int32.ofNat (gLen.getD a 0) else r2).toInt = (m : Int) := by
    rw [ti_min, hm, ofn m hm9.2, hr2]; omega
  simp only [ok_gd, ok_bd, ha, true_and, z0]
  generalize (if Int32.ofNat (gLen.getD a 0) < r2 then Int32.ofNat (gLen.getD a 0) else r2) = y at z1
  refine ok_cdt (by rw [ti_lt, ti_0, z1]; omega) ?_
  exact ok_call (c_idxChar hN ha hm hm9.2 z1 rfl hx) (fun r u h => ok_ret.mpr h)
/-- one of the bytes of a string -/
theorem c_oneOf (hN : 1000 ≤ N) (ha : a < 5) (hm : gLen.getD a 0 = m) (hm9 : 0 < m ∧ m < 10) (hb : ∀ j, j < m → 0 ≤ byt a j) (h : CT w tp t n) (hp : (gI w tp 12).toInt = (i : Int)) (hi : i ≤ n) : ok (f_Tn_takesOneOf N tp a w) (fun r u => idxA a m (PK t n i) r.toInt ∧ ((r.toInt < 0 ∧ u = w) ∨ (0 ≤ r.toInt ∧ i < n ∧ AV tp w u (i + 1)))) := by
  have h0 := h
  have t0 := (lay_T h.1 h.2.1).1
  have hn := h.2.2.2.2.1
  unfold f_Tn_takesOneOf f_Tn_takesOneOf_b0
  simp only [ok_gd, true_and, t0]
  refine ok_call (c_ahead h hp hi) ?_
  rintro r u ⟨rfl, hr⟩
  have hpk := h0.pk (i := i)
  have b19 : ∀ z0 : Int32, idxA a m (PK t n i) z0.toInt → ok (f_Tn_takesOneOf_b19 N tp z0 u) (fun r z => idxA a m (PK t n i) r.toInt ∧ ((r.toInt < 0 ∧ z = u) ∨ (0 ≤ r.toInt ∧ i < n ∧ AV tp u z (i + 1)))) := by
    intro z0 hz
    unfold f_Tn_takesOneOf_b19
    rw [ok_cd]
    refine ⟨fun e => ?_, fun e => ?_⟩ <;> rw [ti_lt, ti_0] at e
    · exact ok_ret.mpr ⟨hz, Or.inl ⟨e, rfl⟩⟩
    · simp only [ok_gd, ok_bd, ok_rr1, ok_nr0, ok_nr1, ok_ret, true_and, and_true, not_false_eq_true, sh_sI, sh_sR, sh_sL, gR_sI, gR_sL, gI_sR, gI_sL, sh_cI, gR_cI, t0]
      have hin : i < n := by
        rcases hz with ⟨j, hj, hj2, -⟩ | ⟨-, hz⟩
        · have := hb j hj
          exact h0.lt (by omega)
        · omega
      exact ⟨hz, Or.inr ⟨by omega, hin, AV_of hp (by omega)⟩⟩
  rw [ok_cd]
  refine ⟨fun e => ?_, fun e => ?_⟩ <;> rw [ti_le, ti_0, hr] at e
  · rw [ok_bd, c16_of (by omega)]
    simp only [ok_gd, ha, true_and]
    refine ok_call (c_idxOf hN ha hm hm9 (by omega)) ?_
    rintro r2 u2 ⟨rfl, hr2⟩
    rw [hr] at hr2
    exact b19 r2 hr2
  · refine b19 _ (Or.inr ⟨fun j hj z => ?_, rfl⟩)
    have := hb j hj
    omega
/-- what a letter is the sign of -/
def plA (x : Int) : Int := if x = 100 then 5 else if x = 107 then 4 else if x = 112 then 3 else if x = 115 then 0 else if x = 116 then 2 else if x = 119 then 1 else -1
theorem idx3 {x r : Int} (h : idxA 3 6 x r) : r = plA x := by
  have b0 : byt 3 0 = 115 := rfl
  have b1 : byt 3 1 = 119 := rfl
  have b2 : byt 3 2 = 116 := rfl
  have b3 : byt 3 3 = 112 := rfl
  have b4 : byt 3 4 = 107 := rfl
  have b5 : byt 3 5 = 100 := rfl
  unfold plA
  rcases h with ⟨j, hj, h1, -, rfl⟩ | ⟨h1, rfl⟩
  · rcases in6 hj with rfl | rfl | rfl | rfl | rfl | rfl
    · rw [← h1, b0]; rfl
    · rw [← h1, b1]; rfl
    · rw [← h1, b2]; rfl
    · rw [← h1, b3]; rfl
    · rw [← h1, b4]; rfl
    · rw [← h1, b5]; rfl
  · have h0 := h1 0 (by omega); have h2 := h1 1 (by omega); have h3 := h1 2 (by omega); have h4 := h1 3 (by omega); have h5 := h1 4 (by omega); have h6 := h1 5 (by omega)
    rw [if_neg (by omega), if_neg (by omega), if_neg (by omega), if_neg (by omega), if_neg (by omega), if_neg (by omega)]
theorem idx4 {x r : Int} (h : idxA 4 3 x r) : (60 ≤ x ∧ x ≤ 62 ∧ r = x - 60) ∨ (¬ (60 ≤ x ∧ x ≤ 62) ∧ r = -1) := by
  have b0 : byt 4 0 = 60 := rfl
  have b1 : byt 4 1 = 61 := rfl
  have b2 : byt 4 2 = 62 := rfl
  rcases h with ⟨j, hj, h1, -, rfl⟩ | ⟨h1, rfl⟩
  · rcases (by omega : j = 0 ∨ j = 1 ∨ j = 2) with rfl | rfl | rfl
    · left; rw [b0] at h1; omega
    · left; rw [b1] at h1; omega
    · left; rw [b2] at h1; omega
  · have h0 := h1 0 (by omega); have h2 := h1 1 (by omega); have h3 := h1 2 (by omega)
    right; omega
theorem plA_in {x : Int} : -1 ≤ plA x ∧ plA x ≤ 5 := by
  unfold plA; repeat' split
  all_goals omega
/-- a test at i -/
def tsA (P : Nat → Int) (i : Nat) (b : Bool) (q : Nat) (z : Int) : Prop :=
  (plA (P i) < 0 ∧ b = false ∧ q = i) ∨ (0 ≤ plA (P i) ∧ ((¬ (60 ≤ P (i + 1) ∧ P (i + 1) ≤ 62) ∧ b = false ∧ q = i + 1) ∨ (60 ≤ P (i + 1) ∧ P (i + 1) ≤ 62 ∧ ∃ v, nmA P (i + 2) q v ∧ ((v = -1 ∧ b = false) ∨ (0 ≤ v ∧ b = true ∧ z = 1000 * plA (P i) + 100 * (P (i + 1) - 60) + v)))))
theorem nmA_in {P : Nat → Int} {q : Nat} {v : Int} (h : nmA P i q v) : (v = -1 ∧ q = i) ∨ (0 ≤ v ∧ v ≤ 99 ∧ i < q) := by
  unfold nmA isD at h; omega
/-- an op is put out -/
theorem c_emit (hL : Lay w) (hT : isT tp) (h8 : 0 ≤ (gI w tp 8).toInt ∧ (gI w tp 8).toInt ≤ 100) : ok (f_Tn_emit N tp x w) (fun _ u => CF tp w u ∧ (gI u tp 12) = gI w tp 12 ∧ (0 ≤ (gI u tp 8).toInt ∧ (gI u tp 8).toInt ≤ 100) ∧ ∀ k : Nat, (gI w tp 8).toInt = (k : Int) → k < 100 → (gI u tp 8).toInt = ((k + 1 : Nat) : Int) ∧ gI u (tp + 6) k = x ∧ ∀ j, j ≠ k → gI u (tp + 6) j = gI w (tp + 6) j) := by
  obtain ⟨t0, -, -, -, -, -, t7, -, -, -, -, -, -, s6, -⟩ := lay_T hL hT
  unfold f_Tn_emit f_Tn_emit_b0
  simp only [ok_gd, ok_bd, ok_rr, true_and, t0, t7]
  refine ⟨_, rfl, ?_⟩
  simp only [ok_gd, ok_bd, true_and, s6]
  rw [ok_cd]
  refine ⟨fun e => ?_, fun e => ?_⟩
  · rw [ti_le] at e
    have e' : (100 : Int) ≤ (gI w tp 8).toInt := e
    exact ok_ret.mpr ⟨Fr.rf, rfl, h8, fun k hk hk1 => by omega⟩
  · rw [ti_le] at e
    have e' : ¬ (100 : Int) ≤ (gI w tp 8).toInt := e
    obtain ⟨k, hk⟩ : ∃ k : Nat, (gI w tp 8).toInt = (k : Int) := ⟨(gI w tp 8).toInt.toNat, by omega⟩
    have n1 := nat_of hk
    have g1 := ix_of (m := 100) hk (by omega)
    rw [n1] at g1
    have e8 : ∀ y : Int32, gI (sI w (tp + 6) k y) tp 8 = gI w tp 8 := fun y => gI_ne (by omega)
    have s1 : ∀ (u : gW) (a k : Nat) (y : Int32) (b : Nat), sh (sI u a k y) b = sh u b := fun _ _ _ _ _ => rfl
    simp only [ok_gd, ok_bd, ok_rr1, ok_nr0, ok_nr1, ok_ret, true_and, and_true, not_false_eq_true, sh_sI, sh_sR, sh_sL, gR_sI, gR_sL, gI_sR, gI_sL, sh_cI, gR_cI, s6, n1, g1, t0, e8, s1]
    have hp1 : (gI w tp 8 + 1).toInt = ((k + 1 : Nat) : Int) := ti_p1 hk (by omega)
    refine ⟨Fr_sI (Fr_sI Fr.rf (by simp)) (by simp), ?_, ?_, fun k' hk' _ => ?_⟩
    · rw [gI_nk (by decide), gI_ne (by omega)]
    · rw [gI_eq, hp1]; omega
    · obtain rfl : k' = k := by omega
      refine ⟨by rw [gI_eq]; exact hp1, by rw [gI_ne (by omega), gI_eq], fun j hj => ?_⟩
      rw [gI_ne (by omega), gI_nk hj]
end STR
