/-! ===== a world becomes another =====  -/
def isV (W : Nat) : Prop := W = 9 ∨ W = 28 ∨ W = 47
section BECOME
variable {w u : gW} {W V p : Nat}
set_option maxRecDepth 20000 in
theorem lay_V (h : Lay w) (hW : isV W) : sh w W = (9, 0) ∧ gR w W 0 = some (W + 1) ∧ gR w W 2 = some (W + 2) ∧ gR w W 3 = some (W + 7) ∧ gR w W 4 = some (W + 12) ∧ gR w W 5 = some (W + 13) ∧ gR w W 6 = some (W + 14) ∧ gR w W 8 = some (W + 15) ∧ gR w W 9 = some (W + 16) ∧ gR w W 11 = some (W + 17) ∧ gR w W 12 = some (W + 18) ∧ sh w (W + 1) = (54, 4) ∧ sh w (W + 2) = (56, 4) ∧ sh w (W + 7) = (56, 4) ∧ sh w (W + 12) = (50, 4) ∧ sh w (W + 13) = (50, 6) ∧ sh w (W + 14) = (50, 4) ∧ sh w (W + 15) = (50, 4) ∧ sh w (W + 16) = (50, 4) ∧ sh w (W + 17) = (50, 8) ∧ sh w (W + 18) = (50, 8) := by
  rcases hW with rfl | rfl | rfl
  · exact lay_W h (Or.inl rfl)
  · exact ⟨h.1 28 (by decide), h.2.1 (28, 0, 29) (by decide), h.2.1 (28, 2, 30) (by decide), h.2.1 (28, 3, 35) (by decide), h.2.1 (28, 4, 40) (by decide), h.2.1 (28, 5, 41) (by decide), h.2.1 (28, 6, 42) (by decide), h.2.1 (28, 8, 43) (by decide), h.2.1 (28, 9, 44) (by decide), h.2.1 (28, 11, 45) (by decide), h.2.1 (28, 12, 46) (by decide), h.1 29 (by decide), h.1 30 (by decide), h.1 35 (by decide), h.1 40 (by decide), h.1 41 (by decide), h.1 42 (by decide), h.1 43 (by decide), h.1 44 (by decide), h.1 45 (by decide), h.1 46 (by decide)⟩
  · exact lay_W h (Or.inr rfl)
set_option maxRecDepth 20000 in
theorem lay_Vp (h : Lay w) (hW : isV W) (hp : p < 4) : gR w (W + 2) p = some (W + 3 + p) ∧ sh w (W + 3 + p) = (50, 6) ∧ gR w (W + 7) p = some (W + 8 + p) ∧ sh w (W + 8 + p) = (50, 4) := by
  rcases hW with rfl | rfl | rfl
  · exact lay_Wp h (Or.inl rfl) hp
  · rcases in4 hp with rfl | rfl | rfl | rfl
    · exact ⟨h.2.1 (30, 0, 31) (by decide), h.1 31 (by decide), h.2.1 (35, 0, 36) (by decide), h.1 36 (by decide)⟩
    · exact ⟨h.2.1 (30, 1, 32) (by decide), h.1 32 (by decide), h.2.1 (35, 1, 37) (by decide), h.1 37 (by decide)⟩
    · exact ⟨h.2.1 (30, 2, 33) (by decide), h.1 33 (by decide), h.2.1 (35, 2, 38) (by decide), h.1 38 (by decide)⟩
    · exact ⟨h.2.1 (30, 3, 34) (by decide), h.1 34 (by decide), h.2.1 (35, 3, 39) (by decide), h.1 39 (by decide)⟩
  · exact lay_Wp h (Or.inr rfl) hp
abbrev VT (V : Nat) : List Nat := [V, V + 1, V + 3, V + 4, V + 5, V + 6, V + 8, V + 9, V + 10, V + 11, V + 12, V + 13, V + 14, V + 15, V + 16, V + 17, V + 18]
set_option maxRecDepth 20000 in
theorem rfV1 : ∀ t ∈ refT, t.1 ≠ 10 ∧ t.1 ≠ 29 ∧ t.1 ≠ 48 := by decide
set_option maxRecDepth 20000 in
theorem rfV2 : ∀ t ∈ refT, ¬ ((t.1 = 9 ∨ t.1 = 28 ∨ t.1 = 47) ∧ t.2.1 = 14) := by decide
theorem gI_cIn {b d s n j q a : Nat} (h : q ≠ b) : gI (cI w a s b d n) q j = gI w q j := by rw [gI_cI, if_neg (fun z => h z.1)]
theorem gI_cIy {b n j a : Nat} (h : j < n) : gI (cI w a 0 b 0 n) b j = gI w a j := by rw [gI_cI, if_pos ⟨rfl, by omega, by omega⟩, Nat.zero_add, Nat.sub_zero]
/-- that much of the payers is copied -/
def bcP (w u : gW) (W V k : Nat) : Prop := ∀ p, p < k → gR u (V + 1) p = gR w (W + 1) p ∧ gI u (V + 12) p = gI w (W + 12) p ∧ (∀ s, s < 6 → gI u (V + 3 + p) s = gI w (W + 3 + p) s) ∧ ∀ j, j < 4 → gI u (V + 8 + p) j = gI w (W + 8 + p) j
def bcR (w u : gW) (W V : Nat) : Prop := (∀ s, s < 6 → gI u (V + 13) s = gI w (W + 13) s) ∧ (∀ s, s < 4 → gI u (V + 14) s = gI w (W + 14) s) ∧ (∀ s, s < 4 → gI u (V + 15) s = gI w (W + 15) s) ∧ (∀ s, s < 4 → gI u (V + 16) s = gI w (W + 16) s) ∧ (∀ s, s < 8 → gI u (V + 17) s = gI w (W + 17) s) ∧ (∀ s, s < 8 → gI u (V + 18) s = gI w (W + 18) s) ∧ gI u V 1 = gI w W 1 ∧ gI u V 7 = gI w W 7 ∧ gI u V 10 = gI w W 10 ∧ gI u V 13 = gI w W 13 ∧ gR u V 14 = gR w W 14
set_option maxHeartbeats 2000000 in
theorem c_become {N tp : Nat} (hN : 1000 ≤ N) (hL : Lay w) (hW : isV W) (hV : isV V) (hne : W ≠ V) (hpy : ∀ p o, p < 4 → gR w (W + 1) p = some o → (sh w o).1 < 7) (h14 : gR w W 14 = some tp) :
    ok (f_Wo_become N V W w) (fun _ u => Fr (VT V) [] w u ∧ bcP w u W V 4 ∧ bcR w u W V) := by
  have hd : W + 18 < V ∨ V + 18 < W := by rcases hW with rfl | rfl | rfl <;> rcases hV with rfl | rfl | rfl <;> omega
  have hv1 : V + 1 = 10 ∨ V + 1 = 29 ∨ V + 1 = 48 := by rcases hV with rfl | rfl | rfl <;> omega
  have oW : ∀ d, d ≤ 18 → oP (VT V) [] (W + d) := fun d hd' => ⟨by simp only [List.mem_cons, List.not_mem_nil, or_false]; omega, by simp⟩
  have j0 : (0 : Int32).toNatClampNeg = 0 := rfl
  have j4 : (4 : Int32).toNatClampNeg = 4 := rfl
  have j6 : (6 : Int32).toNatClampNeg = 6 := rfl
  have j8 : (8 : Int32).toNatClampNeg = 8 := rfl
  unfold f_Wo_become f_Wo_become_b0 f_Wo_become_l2
  refine itr_up (fun k q => q.1 = V ∧ q.2.1 = W ∧ q.2.2.1.toInt = (k : Int) ∧ Fr (VT V) [] w q.2.2.2 ∧ bcP w q.2.2.2 W V k) 4 ?_ ?_ N 0 _ (by omega) ?_ (by omega)
  · rintro rec k ⟨b0, b1, a2, u⟩ hk ⟨e0, e1, e2, f, e3⟩ IH
    simp only at e0 e1 e2 f e3
    subst e0 e1
    have hLu := f.lay hL
    obtain ⟨w0, w1, w2, w3, w4, w5, w6, w8, w9, w11, w12, x1, x2, x7, x12, x13, x14, x15, x16, x17, x18⟩ := lay_V hLu hW
    obtain ⟨v0, v1, v2, v3, v4, v5, v6, v8, v9, v11, v12, y1, y2, y7, y12, y13, y14, y15, y16, y17, y18⟩ := lay_V hLu hV
    obtain ⟨pa, pb, pc, pd⟩ := lay_Vp hLu hW hk
    obtain ⟨qa, qb, qc, qd⟩ := lay_Vp hLu hV hk
    have n2 := nat_of e2
    have g2 := ix_of (m := 4) e2 hk
    rw [n2] at g2
    have k9 : k < 2147483647 := by omega
    have i1 : b1 ≠ b0 + 1 := by omega
    have i2 : b1 + 2 ≠ b0 + 1 := by omega
    have i7 : b1 + 7 ≠ b0 + 1 := by omega
    have i0 : b0 ≠ b0 + 1 := by omega
    have i3 : b0 + 2 ≠ b0 + 1 := by omega
    have i4 : b0 + 7 ≠ b0 + 1 := by omega
    have er : gR u (b1 + 1) k = gR w (b1 + 1) k := f.r (oW 1 (by omega))
    have fin : ∀ (x : Option Nat), gR w (b1 + 1) k = x → ok (rec (b0, b1, a2 + 1, cI (cI (sI (sR u (b0 + 1) k x) (b0 + 12) k (gI u (b1 + 12) k)) (b1 + 3 + k) 0 (b0 + 3 + k) 0 6) (b1 + 8 + k) 0 (b0 + 8 + k) 0 4)) (fun _ u => Fr (VT b0) [] w u ∧ bcP w u b1 b0 4 ∧ bcR w u b1 b0) := by
      intro x hx
      refine IH _ ?_
      refine ⟨rfl, rfl, ti_p1 e2 k9, Fr_cI (Fr_cI (Fr_sI (Fr_sR f (by simp) (fun t ht z => ?_)) (by simp)) (by simp; omega)) (by simp; omega), fun q hq => ?_⟩
      · have := rfV1 t ht; omega
      · simp only
        by_cases e : q = k
        · subst e
          refine ⟨?_, ?_, fun s hs => ?_, fun j hj => ?_⟩
          · rw [gR_cI, gR_cI, gR_sI, gR_eq, hx]
          · rw [gI_cIn (by omega), gI_cIn (by omega), gI_eq, f.i (oW 12 (by omega))]
          · rw [gI_cIn (by omega), gI_cIy hs, gI_ne (by omega), gI_sR]
            have e3' : b1 + 3 + q = b1 + (3 + q) := by omega
            rw [e3']; exact f.i (oW _ (by omega))
          · rw [gI_cIy hj, gI_cIn (by omega), gI_ne (by omega), gI_sR]
            have e8' : b1 + 8 + q = b1 + (8 + q) := by omega
            rw [e8']; exact f.i (oW _ (by omega))
        · obtain ⟨g1, g2, g3, g4⟩ := e3 q (by omega)
          refine ⟨?_, ?_, fun s hs => ?_, fun j hj => ?_⟩
          · rw [gR_cI, gR_cI, gR_sI, gR_nk e]; exact g1
          · rw [gI_cIn (by omega), gI_cIn (by omega), gI_nk e]; exact g2
          · rw [gI_cIn (by omega), gI_cIn (by omega), gI_ne (by omega)]; exact g3 s hs
          · rw [gI_cIn (by omega), gI_cIn (by omega), gI_ne (by omega)]; exact g4 j hj
    show ok (f_Wo_become_b2 N rec b0 b1 a2 u) _
    unfold f_Wo_become_b2
    refine ok_cdf (by rw [ti_le, e2, ti_4]; omega) ?_
    simp only [ok_gd, ok_bd, ok_rr1, ok_nr0, ok_nr1, ok_ret, true_and, and_true, not_false_eq_true, sh_sI, sh_sR, sh_sL, gR_sI, gR_sL, gI_sR, gI_sL, sh_cI, gR_cI, w0, v0, w1, v1, x1, n2, g2]
    cases hx : gR w (b1 + 1) k with
    | none =>
      rw [er, hx]
      simp only [ok_gd, ok_bd, ok_rr1, ok_nr0, ok_nr1, ok_ret, true_and, and_true, not_false_eq_true, sh_sI, sh_sR, sh_sL, gR_sI, gR_sL, gI_sR, gI_sL, sh_cI, gR_cI, w0, v0, y1, n2, g2, gR_ne i1, gR_ne i0, gR_ne i2, gR_ne i3, gR_ne i4, gR_ne i7, w4, v4, w2, v2, w3, v3, x12, y12, x2, y2, x7, y7, pa, pb, pc, pd, qa, qb, qc, qd, j0, j4, j6, Nat.zero_add, Nat.le_refl]
      exact fin none hx
    | some o =>
      rw [er, hx]
      have ho : (sh u o).1 < 7 := by rw [f.s]; exact hpy k o hk hx
      simp only [ok_gd, ok_bd, ok_rr1, ok_nr0, ok_nr1, ok_ret, true_and, and_true, not_false_eq_true, sh_sI, sh_sR, sh_sL, gR_sI, gR_sL, gI_sR, gI_sL, sh_cI, gR_cI, w0, v0, y1, n2, g2, ho, gR_ne i1, gR_ne i0, gR_ne i2, gR_ne i3, gR_ne i4, gR_ne i7, w4, v4, w2, v2, w3, v3, x12, y12, x2, y2, x7, y7, pa, pb, pc, pd, qa, qb, qc, qd, j0, j4, j6, Nat.zero_add, Nat.le_refl]
      exact fin (some o) hx
  · rintro rec ⟨b0, b1, a2, u⟩ ⟨e0, e1, e2, f, e3⟩
    simp only at e0 e1 e2 f e3
    subst e0 e1
    have hLu := f.lay hL
    obtain ⟨w0, w1, w2, w3, w4, w5, w6, w8, w9, w11, w12, x1, x2, x7, x12, x13, x14, x15, x16, x17, x18⟩ := lay_V hLu hW
    obtain ⟨v0, v1, v2, v3, v4, v5, v6, v8, v9, v11, v12, y1, y2, y7, y12, y13, y14, y15, y16, y17, y18⟩ := lay_V hLu hV
    have u14 : gR u b1 14 = some tp := by
      have o0 : oP (VT b0) [] b1 := oW 0 (by omega)
      rw [f.r o0]; exact h14
    show ok (f_Wo_become_b2 N rec b0 b1 a2 u) _
    unfold f_Wo_become_b2
    refine ok_cdt (by rw [ti_le, e2, ti_4]; decide) ?_
    simp only [ok_gd, ok_bd, ok_rr1, ok_nr0, ok_nr1, ok_ret, true_and, and_true, not_false_eq_true, sh_sI, sh_sR, sh_sL, gR_sI, gR_sL, gI_sR, gI_sL, sh_cI, gR_cI, w0, v0, w5, v5, w6, v6, w8, v8, w9, v9, w11, v11, w12, v12, u14, x13, y13, x14, y14, x15, y15, x16, y16, x17, y17, x18, y18, j0, j4, j6, j8, Nat.zero_add, Nat.le_refl]
    have o0 : oP (VT b0) [] b1 := oW 0 (by omega)
    refine ⟨Fr_sR (Fr_sI (Fr_cI (Fr_cI (Fr_sI (Fr_cI (Fr_cI (Fr_sI (Fr_cI (Fr_cI (Fr_sI f (by simp)) (by simp)) (by simp)) (by simp)) (by simp)) (by simp)) (by simp)) (by simp)) (by simp)) (by simp)) (by simp) (fun t ht z => ?_), fun q hq => ?_, fun s hs => ?_, fun s hs => ?_, fun s hs => ?_, fun s hs => ?_, fun s hs => ?_, fun s hs => ?_, ?_, ?_, ?_, ?_, ?_⟩
    · exact rfV2 t ht ⟨by rcases hV with rfl | rfl | rfl <;> omega, z.2⟩
    · obtain ⟨g1, g2, g3, g4⟩ := e3 q hq
      refine ⟨?_, ?_, fun s hs => ?_, fun j hj => ?_⟩
      · simp (disch := omega) only [gR_cI, gR_sI, gR_ne]; exact g1
      · simp (disch := omega) only [gI_sR, gI_cIn, gI_ne]; exact g2
      · simp (disch := omega) only [gI_sR, gI_cIn, gI_ne]; exact g3 s hs
      · simp (disch := omega) only [gI_sR, gI_cIn, gI_ne]; exact g4 j hj
    · simp (disch := omega) only [gI_sR, gI_cIn, gI_ne, gI_cIy]; exact f.i (oW 13 (by omega))
    · simp (disch := omega) only [gI_sR, gI_cIn, gI_ne, gI_cIy]; exact f.i (oW 14 (by omega))
    · simp (disch := omega) only [gI_sR, gI_cIn, gI_ne, gI_cIy]; exact f.i (oW 15 (by omega))
    · simp (disch := omega) only [gI_sR, gI_cIn, gI_ne, gI_cIy]; exact f.i (oW 16 (by omega))
    · simp (disch := omega) only [gI_sR, gI_cIn, gI_ne, gI_cIy]; exact f.i (oW 17 (by omega))
    · simp (disch := omega) only [gI_sR, gI_cIn, gI_ne, gI_cIy]; exact f.i (oW 18 (by omega))
    · simp (disch := omega) only [gI_sR, gI_cIn, gI_ne, gI_nk, gI_eq]; exact f.i o0
    · simp (disch := omega) only [gI_sR, gI_cIn, gI_ne, gI_nk, gI_eq]; exact f.i o0
    · simp (disch := omega) only [gI_sR, gI_cIn, gI_ne, gI_nk, gI_eq]; exact f.i o0
    · simp (disch := omega) only [gI_sR, gI_cIn, gI_ne, gI_nk, gI_eq]; exact f.i o0
    · rw [gR_eq, h14]
  · exact ⟨rfl, rfl, rfl, Fr.rf, fun q hq => absurd hq (by omega)⟩
end BECOME
