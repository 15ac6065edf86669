/-! ===== a town's text: a test in model and class =====  -/
section TST
variable {N n f A cI p k tp i : Nat} {w w0 u z : gW} {t : Nat → Int} {S O P S' : List Int} {x c : Int32} {y : Int}
theorem nmA_det {P : Nat → Int} {q q' : Nat} {v v' : Int} (h : nmA P i q v) (g : nmA P i q' v') : q = q' ∧ v = v' := by
  unfold nmA isD at h g; omega
theorem tsA_det {P : Nat → Int} {b b' : Bool} {q q' : Nat} {z z' : Int} (h : tsA P i b q z) (g : tsA P i b' q' z') : b = b' ∧ q = q' ∧ (b = true → z = z') := by
  rcases h with ⟨h1, rfl, rfl⟩ | ⟨h1, ⟨h2, rfl, rfl⟩ | ⟨h2, h3, v, h4, h5⟩⟩ <;> rcases g with ⟨g1, rfl, rfl⟩ | ⟨g1, ⟨g2, rfl, rfl⟩ | ⟨g2, g3, v', g4, g5⟩⟩
  · exact ⟨rfl, rfl, fun z => by cases z⟩
  · omega
  · omega
  · omega
  · exact ⟨rfl, rfl, fun z => by cases z⟩
  · omega
  · omega
  · omega
  · obtain ⟨rfl, rfl⟩ := nmA_det h4 g4
    rcases h5 with ⟨h5, rfl⟩ | ⟨h5, rfl, h6⟩ <;> rcases g5 with ⟨g5, rfl⟩ | ⟨g5, rfl, g6⟩
    · exact ⟨rfl, rfl, fun z => by cases z⟩
    · omega
    · omega
    · exact ⟨rfl, rfl, fun _ => by rw [h6, g6]⟩
theorem m_place : ok (f_M_place N 133 x u) (fun r z => z = u ∧ r.toInt = plA x.toInt) := by
  have e100 : (100 : Int32).toInt = 100 := rfl
  have e107 : (107 : Int32).toInt = 107 := rfl
  have e112 : (112 : Int32).toInt = 112 := rfl
  have e115 : (115 : Int32).toInt = 115 := rfl
  have e116 : (116 : Int32).toInt = 116 := rfl
  have e119 : (119 : Int32).toInt = 119 := rfl
  unfold f_M_place f_M_place_b0 plA
  rw [ok_cd]
  refine ⟨fun e => ?_, fun e => ?_⟩ <;> rw [ti_eq, e100] at e
  · exact ok_ret.mpr ⟨rfl, by rw [if_pos e]; rfl⟩
  rw [if_neg e, ok_cd]
  refine ⟨fun e => ?_, fun e => ?_⟩ <;> rw [ti_eq, e107] at e
  · exact ok_ret.mpr ⟨rfl, by rw [if_pos e]; rfl⟩
  rw [if_neg e, ok_cd]
  refine ⟨fun e => ?_, fun e => ?_⟩ <;> rw [ti_eq, e112] at e
  · exact ok_ret.mpr ⟨rfl, by rw [if_pos e]; rfl⟩
  rw [if_neg e, ok_cd]
  refine ⟨fun e => ?_, fun e => ?_⟩ <;> rw [ti_eq, e115] at e
  · exact ok_ret.mpr ⟨rfl, by rw [if_pos e]; rfl⟩
  rw [if_neg e, ok_cd]
  refine ⟨fun e => ?_, fun e => ?_⟩ <;> rw [ti_eq, e116] at e
  · exact ok_ret.mpr ⟨rfl, by rw [if_pos e]; rfl⟩
  rw [if_neg e, ok_cd]
  refine ⟨fun e => ?_, fun e => ?_⟩ <;> rw [ti_eq, e119] at e
  · exact ok_ret.mpr ⟨rfl, by rw [if_pos e]; rfl⟩
  · exact ok_ret.mpr ⟨rfl, by rw [if_neg e]; rfl⟩
set_option maxHeartbeats 1000000 in
theorem m_test (hN : 1000 ≤ N) (h : M0 t n w0 f A cI) (q : MX n w0 u f A cI S O p) : ok (f_M_takesTest N 133 u) (fun r z => ∃ b e y, tsA (PK t n) p b e y ∧ ((b = true ∧ r = 1 ∧ p + 3 ≤ e ∧ MX n w0 z f A cI (wN S) (O ++ y :: nN S) e) ∨ (b = false ∧ r = 0 ∧ MD w0 z A cI ∧ (gI z 133 11).toInt = (e : Int)))) := by
  have hx := lay_TX (q.st h).1
  have e60 : (60 : Int32).toInt = 60 := rfl
  have e62 : (62 : Int32).toInt = 62 := rfl
  unfold f_M_takesTest f_M_takesTest_b0
  simp only [ok_gd, true_and, hx]
  refine ok_call (m_peek h q) ?_
  rintro r1 u1 ⟨rfl, hr1⟩
  simp only [ok_gd, true_and, hx]
  refine ok_call m_place ?_
  rintro r2 u2 ⟨rfl, hr2⟩
  rw [hr1] at hr2
  have hpl := plA_in (x := PK t n p)
  rw [ok_cd]
  refine ⟨fun e => ?_, fun e => ?_⟩ <;> rw [ti_le, ti_0, hr2] at e
  · have hin : p < n := by
      rcases Nat.lt_or_ge p n with g | g
      · exact g
      · rw [PK_ge (by omega)] at e; exact absurd e (by decide)
    have q1 := m_adv q h hin
    have hx1 := lay_TX (q1.st h).1
    simp only [ok_gd, ok_bd, true_and, hx, hx1]
    refine ok_call (m_peek h q1) ?_
    rintro r3 u3 ⟨rfl, hr3⟩
    simp only [ok_gd, true_and, hx1]
    refine ok_call c_Min ?_
    rintro r4 u4 ⟨rfl, hr4⟩
    rw [e60, e62, hr3] at hr4
    rw [ok_cd]
    refine ⟨fun e4 => ?_, fun e4 => ?_⟩
    · exact ok_ret.mpr ⟨false, p + 1, 0, Or.inr ⟨e, Or.inl ⟨hr4.z.mp e4, rfl, rfl⟩⟩, Or.inr ⟨rfl, rfl, q1.1, q1.2.1⟩⟩
    have e4' := Classical.not_not.mp (fun z => e4 (hr4.z.mpr z))
    have hin2 := PK_in (t := t) (n := n) (p := p + 1) (by omega)
    have q2 := m_adv q1 h hin2
    have hx2 := lay_TX (q2.st h).1
    simp only [ok_gd, ok_bd, true_and, hx1, hx2]
    refine ok_call (m_number hN h q2) ?_
    rintro r5 u5 ⟨e5, v, hnm, q5, hv⟩
    have hx5 := lay_TX (q5.st h).1
    have hvi := nmA_in hnm
    rcases hv with ⟨rfl, rfl⟩ | ⟨hv, rfl, h12⟩
    · refine ok_cdt rfl (ok_ret.mpr ⟨false, e5, 0, Or.inr ⟨e, Or.inr ⟨e4'.1, e4'.2, -1, hnm, Or.inl ⟨rfl, rfl⟩⟩⟩, Or.inr ⟨rfl, rfl, q5.1, q5.2.1⟩⟩)
    · refine ok_cdf (by decide) ?_
      have e1000 : (1000 : Int32).toInt = 1000 := rfl
      have e100 : (100 : Int32).toInt = 100 := rfl
      have v1 : (1000 * r2).toInt = 1000 * plA (PK t n p) := by rw [ti_mul] <;> rw [hr2, e1000]; omega
      have v2 : (r3 - 60).toInt = PK t n (p + 1) - 60 := by rw [ti_sub] <;> rw [hr3, e60]; omega
      have v3 : (100 * (r3 - 60)).toInt = 100 * (PK t n (p + 1) - 60) := by rw [ti_mul] <;> rw [v2, e100]; omega
      have v4 : (1000 * r2 + 100 * (r3 - 60)).toInt = 1000 * plA (PK t n p) + 100 * (PK t n (p + 1) - 60) := by rw [ti_add] <;> rw [v1, v3]; omega
      have v5 : (1000 * r2 + 100 * (r3 - 60) + gI u5 133 12).toInt = 1000 * plA (PK t n p) + 100 * (PK t n (p + 1) - 60) + v := by rw [ti_add] <;> rw [v4, h12]; omega
      have h21 := q5.2.2.2.2.1
      have hb := q5.2.2.2.2.2.2.2.1
      have hb0 := q.2.2.2.2.2.2.2.1
      have hen := q5.2.2.2.2.2.2.2.2
      have hf := h.2.2.2.2.1
      have hn := h.2.1
      simp only [ok_gd, ok_bd, true_and, hx5]
      refine ok_call (c_Memits (k := A + O.length) (q5.st h).1 h21 (by omega)) ?_
      rintro - z rfl
      have hp1 : (gI u5 133 21 + 1).toInt = ((A + O.length + 1 : Nat) : Int) := ti_p1 h21 (by omega)
      have q6 : MX n w0 (sI (sI u5 147 (A + O.length) (1000 * r2 + 100 * (r3 - 60) + gI u5 133 12)) 133 21 (gI u5 133 21 + 1)) f A cI S (O ++ [1000 * plA (PK t n p) + 100 * (PK t n (p + 1) - 60) + v]) e5 := by
        refine q5.put (Fr_sI (Fr_sI Fr.rf (by simp)) (by simp)) q5.2.2.2.2.2.1 (by omega) ?_ ?_ ?_ ?_ ?_ (fun j hj => ?_)
        · rw [gI_nk (by decide), gI_ne (by decide)]
        · rw [gI_nk (by decide), gI_ne (by decide)]; exact q5.2.2.1
        · rw [gI_nk (by decide), gI_ne (by decide)]; exact q5.2.2.2.1
        · rw [gI_eq]; exact hp1
        · rw [gI_ne (by decide), gI_eq]; exact v5
        · rw [gI_ne (by decide), gI_nk hj]
      have hx6 := lay_TX (q6.st h).1
      simp only [ok_gd, true_and, hx6]
      refine ok_call (m_whole hN h q6) ?_
      rintro - z7 q7
      refine ok_ret.mpr ⟨true, e5, _, Or.inr ⟨e, Or.inr ⟨e4'.1, e4'.2, v, hnm, Or.inr ⟨hv, rfl, rfl⟩⟩⟩, Or.inl ⟨rfl, rfl, by omega, ?_⟩⟩
      rw [List.append_assoc] at q7
      exact q7
  · exact ok_ret.mpr ⟨false, p, 0, Or.inl ⟨by omega, rfl, rfl⟩, Or.inr ⟨rfl, rfl, q.1, q.2.1⟩⟩
/-- the ops that the class puts out, from k on -/
def CO (tp : Nat) (w u : gW) (k : Nat) (ops : List Int) : Prop := (gI u tp 8).toInt = ((k + ops.length : Nat) : Int) ∧ (∀ j, j < k → gI u (tp + 6) j = gI w (tp + 6) j) ∧ rgn u (tp + 6) cdz k ops
abbrev c8 (tp : Nat) (u : gW) : Prop := 0 ≤ (gI u tp 8).toInt ∧ (gI u tp 8).toInt ≤ 100
set_option maxHeartbeats 1000000 in
theorem c_test (hN : 1000 ≤ N) (h : CT w tp t n) (hp : (gI w tp 12).toInt = (i : Int)) (hi : i ≤ n) (h8 : (gI w tp 8).toInt = (k : Int)) (hk : k ≤ i) : ok (f_Tn_test N tp w) (fun r u => CF tp w u ∧ c8 tp u ∧ ∃ b e y, tsA (PK t n) i b e y ∧ (gI u tp 12).toInt = (e : Int) ∧ e ≤ n ∧ ((b = true ∧ r = 1 ∧ i + 3 ≤ e ∧ CO tp w u k [y]) ∨ (b = false ∧ r = 0))) := by
  have hn := h.2.2.2.2.1
  have t0 := (lay_T h.1 h.2.1).1
  have b3 : ∀ j, j < 6 → 0 ≤ byt 3 j := by decide
  have b4 : ∀ j, j < 3 → 0 ≤ byt 4 j := by decide
  have hc8 : c8 tp w := by unfold c8; omega
  unfold f_Tn_test f_Tn_test_b0
  simp only [ok_gd, true_and, t0]
  refine ok_call (c_oneOf (a := 3) (m := 6) hN (by decide) rfl (by decide) b3 h hp hi) ?_
  rintro r1 u1 ⟨hr1, hr1'⟩
  have e1 := idx3 hr1
  have hpl := plA_in (x := PK t n i)
  rw [ok_cd]
  refine ⟨fun g => ?_, fun g => ?_⟩ <;> rw [ti_le, ti_0] at g
  · rcases hr1' with ⟨h1, -⟩ | ⟨-, hin, hav⟩
    · omega
    have h1 := h.cf hav.cf
    have t1 := (lay_T h1.1 h1.2.1).1
    have h81 : gI u1 tp 8 = gI w tp 8 := hav.1.c ⟨by simp, by simp⟩
    simp only [ok_gd, true_and, t1]
    refine ok_call (c_oneOf (a := 4) (m := 3) hN (by decide) rfl (by decide) b4 h1 hav.2 (by omega)) ?_
    rintro r2 u2 ⟨hr2, hr2'⟩
    have e2 := idx4 hr2
    rw [ok_cd]
    refine ⟨fun g2 => ?_, fun g2 => ?_⟩ <;> rw [ti_le, ti_0] at g2
    · rcases hr2' with ⟨h2, -⟩ | ⟨-, hin2, hav2⟩
      · omega
      rcases e2 with ⟨e21, e22, e23⟩ | ⟨-, e23⟩
      rotate_left 1
      · omega
      have h2 := h1.cf hav2.cf
      have t2 := (lay_T h2.1 h2.2.1).1
      have h82 : gI u2 tp 8 = gI w tp 8 := by rw [hav2.1.c ⟨by simp, by simp⟩]; exact h81
      simp only [ok_gd, true_and, t2]
      refine ok_call (c_number h2 hav2.2 (by omega)) ?_
      rintro r3 u3 ⟨e3, he3, hav3, hnm⟩
      have h3 := h2.cf hav3.cf
      have hF : CF tp w u3 := (hav.cf.tr hav2.cf).tr hav3.cf
      have h83 : gI u3 tp 8 = gI w tp 8 := by rw [hav3.1.c ⟨by simp, by simp⟩]; exact h82
      have hvi := nmA_in hnm
      rw [ok_cd]
      refine ⟨fun g3 => ?_, fun g3 => ?_⟩ <;> rw [ti_le, ti_0] at g3
      · have e300 : (300 : Int32).toInt = 300 := rfl
        have e100 : (100 : Int32).toInt = 100 := rfl
        have v1 : (r1 * 300).toInt = plA (PK t n i) * 300 := by rw [ti_mul] <;> rw [e1, e300]; omega
        have v2 : (3 + r1 * 300).toInt = 3 + plA (PK t n i) * 300 := by rw [ti_add] <;> rw [v1, ti_3]; omega
        have v3 : (r2 * 100).toInt = (PK t n (i + 1) - 60) * 100 := by rw [ti_mul] <;> rw [e23, e100]; omega
        have v4 : (3 + r1 * 300 + r2 * 100).toInt = 3 + plA (PK t n i) * 300 + (PK t n (i + 1) - 60) * 100 := by rw [ti_add] <;> rw [v2, v3]; omega
        have v5 : (3 + r1 * 300 + r2 * 100 + r3).toInt = 3 + plA (PK t n i) * 300 + (PK t n (i + 1) - 60) * 100 + r3.toInt := by rw [ti_add] <;> rw [v4]; omega
        have t3 := (lay_T h3.1 h3.2.1).1
        simp only [ok_gd, ok_bd, true_and, t3]
        refine ok_call (c_emit h3.1 h3.2.1 (by rw [h83]; exact hc8)) ?_
        rintro - u4 ⟨f4, e12, c84, hem⟩
        obtain ⟨m1, m2, m3⟩ := hem k (by rw [h83]; exact h8) (by omega)
        refine ok_ret.mpr ⟨hF.tr f4, c84, true, e3, 1000 * plA (PK t n i) + 100 * (PK t n (i + 1) - 60) + r3.toInt, Or.inr ⟨by omega, Or.inr ⟨e21, e22, r3.toInt, hnm, Or.inr ⟨g3, rfl, rfl⟩⟩⟩, by rw [e12]; exact hav3.2, he3, Or.inl ⟨rfl, rfl, by omega, by rw [m1]; rfl, fun j hj => ?_, ?_, trivial⟩⟩
        · rw [m3 j (by omega), hav3.1.i ⟨by simp, by simp⟩, hav2.1.i ⟨by simp, by simp⟩, hav.1.i ⟨by simp, by simp⟩]
        · rw [m2, v5]; unfold cdz
          rw [if_neg (by omega), if_neg (by omega), if_neg (by omega)]
          omega
      · exact ok_ret.mpr ⟨hF, by rw [c8, h83]; exact hc8, false, e3, 0, Or.inr ⟨by omega, Or.inr ⟨e21, e22, r3.toInt, hnm, Or.inl ⟨by omega, rfl⟩⟩⟩, hav3.2, he3, Or.inr ⟨rfl, rfl⟩⟩
    · rcases hr2' with ⟨-, rfl⟩ | ⟨h2, -⟩
      rotate_left 1
      · omega
      rcases e2 with ⟨e21, e22, e23⟩ | ⟨e21, -⟩
      · omega
      exact ok_ret.mpr ⟨hav.cf, by rw [c8, h81]; exact hc8, false, i + 1, 0, Or.inr ⟨by omega, Or.inl ⟨e21, rfl, rfl⟩⟩, hav.2, by omega, Or.inr ⟨rfl, rfl⟩⟩
  · rcases hr1' with ⟨-, rfl⟩ | ⟨h1, -⟩
    rotate_left 1
    · omega
    exact ok_ret.mpr ⟨Fr.rf, hc8, false, i, 0, Or.inl ⟨by omega, rfl, rfl⟩, hp, hi, Or.inr ⟨rfl, rfl⟩⟩
end TST
