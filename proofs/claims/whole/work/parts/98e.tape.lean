/-! ===== tape, the call =====  -/
section TAPEC
variable {N t : Nat} {w u z : gW} {a1 a2 a3 : Int32}
theorem ti_n14 : (-14 : Int32).toInt = -14 := rfl
theorem c_Mtapecall {Q : Int32 → gW → Prop} (hN : 1000 ≤ N) (hL : Lay u) (hA : ¬ (0 ≤ a1.toInt ∧ a1.toInt < 6) → Q (-1) u) (hB : (0 ≤ a1.toInt ∧ a1.toInt < 6) → (¬ (-1 ≤ a2.toInt ∧ a2.toInt ≤ 4) ∨ (0 ≤ a2.toInt ∧ 60 < a3.toInt)) → Q (-2) u) (hD : (0 ≤ a1.toInt ∧ a1.toInt < 6) → (0 ≤ a2.toInt ∧ a2.toInt ≤ 4) → a3.toInt < 0 → Q (-14) u)
    (hE : ∀ (t : Nat) (n r : Int32) (z : gW), t < 6 → a1.toInt = (t : Int) → (-1 ≤ a2.toInt ∧ a2.toInt ≤ 4) → ((a2.toInt < 0 ∧ n = 0) ∨ (0 ≤ a2.toInt ∧ n = a3 ∧ 0 ≤ a3.toInt ∧ a3.toInt ≤ 60)) → r.toInt = 1 → Fr [178, 179, 180] [] u z → (∀ j, gI z 178 j = if j = t then a2 else gI u 178 j) → (∀ j, gI z 179 j = if j = t then n else gI u 179 j) → (∀ k, k < 60 → gL z 180 (60 * t + k) = 0) → (∀ j, (j < 60 * t ∨ 60 * t + 60 ≤ j) → gL z 180 j = gL u 180 j) → Q r z) : ok (f_M_tape N 133 a1 a2 a3 u) Q := by
  have hx := lay_TP hL
  have ti_n1' : (-1 : Int32).toInt = -1 := rfl
  unfold f_M_tape f_M_tape_b0
  simp only [ok_gd, true_and, hx]
  refine ok_call (c_Mtape' hL) ?_
  rintro r1 u1 ⟨rfl, hr1⟩
  rw [ok_cd]
  refine ⟨fun cc => ok_ret.mpr (hA (hr1.z.mp cc)), fun cc => ?_⟩
  have c' := Classical.not_not.mp (fun z => cc (hr1.z.mpr z))
  obtain ⟨t, htt⟩ : ∃ t : Nat, a1.toInt = (t : Int) := ⟨a1.toInt.toNat, by omega⟩
  have ht : t < 6 := by omega
  have n1 := nat_of htt
  have g1 := ix_of (m := 6) htt ht
  rw [n1] at g1
  -- the tape is laid
  have lay : ∀ n : Int32, (-1 ≤ a2.toInt ∧ a2.toInt ≤ 4) → ((a2.toInt < 0 ∧ n = 0) ∨ (0 ≤ a2.toInt ∧ n = a3 ∧ 0 ≤ a3.toInt ∧ a3.toInt ≤ 60)) → ok (f_M_tape_b65 N 133 a1 n a1 179 (sI u1 178 t a2)) Q := by
    intro n h1 h2
    unfold f_M_tape_b65
    simp only [ok_gd, ok_bd, ok_rr1, ok_nr0, ok_nr1, ok_ret, true_and, and_true, not_false_eq_true, sh_sI, sh_sR, sh_sL, gR_sI, gR_sL, gI_sR, gI_sL, sh_cI, gR_cI, hx, n1, g1]
    have f1 : Fr [178, 179, 180] [] u1 (sI (sI u1 178 t a2) 179 t n) := Fr_sI (Fr_sI Fr.rf (by simp)) (by simp)
    refine (c_Mclear hN (f1.lay hL) htt ht).mono ?_
    rintro r2 u2 ⟨hr2, f2, ei, ez, eo⟩
    refine hE t n r2 u2 ht htt h1 h2 hr2 (f1.tr (f2.up (by simp) (by simp))) (fun j => ?_) (fun j => ?_) ez (fun j hj => ?_)
    · rw [ei, gI_ne (by decide), gI_sI]
      by_cases e : j = t
      · rw [if_pos ⟨rfl, e⟩, if_pos e]
      · rw [if_neg (fun q => e q.2), if_neg e]
    · rw [ei, gI_sI]
      by_cases e : j = t
      · rw [if_pos ⟨rfl, e⟩, if_pos e]
      · rw [if_neg (fun q => e q.2), if_neg e, gI_ne (by decide)]
    · rw [eo j hj]; rfl
  have b44 : (-1 ≤ a2.toInt ∧ a2.toInt ≤ 4) → (a2.toInt < 0 ∨ (0 ≤ a3.toInt ∧ a3.toInt ≤ 60)) → ok (f_M_tape_b44 N 133 a1 a2 a3 u1) Q := by
    intro h1 h2
    unfold f_M_tape_b44
    simp only [ok_gd, ok_bd, ok_rr1, ok_nr0, ok_nr1, ok_ret, true_and, and_true, not_false_eq_true, sh_sI, sh_sR, sh_sL, gR_sI, gR_sL, gI_sR, gI_sL, sh_cI, gR_cI, hx, n1, g1]
    rw [ok_cd]
    refine ⟨fun d => ?_, fun d => ?_⟩
    · rw [ti_le, ti_0] at d
      exact lay a3 h1 (Or.inr ⟨d, rfl, by omega, by omega⟩)
    · rw [ti_le, ti_0] at d
      exact lay 0 h1 (Or.inl ⟨by omega, rfl⟩)
  simp only [ok_gd, true_and, hx]
  refine ok_call c_Min ?_
  rintro r2 u2 ⟨rfl, hr2⟩
  rw [ti_n1', ti_4] at hr2
  rw [ok_cd]
  refine ⟨fun d => ok_ret.mpr (hB c' (Or.inl (hr2.z.mp d))), fun d => ?_⟩
  have d' := Classical.not_not.mp (fun z => d (hr2.z.mpr z))
  rw [ok_cd]
  refine ⟨fun e => ?_, fun e => ?_⟩
  · rw [ti_lt, ti_0] at e
    unfold f_M_tape_b33
    exact ok_cdt (by rw [ti_lt, ti_0]; exact e) (b44 d' (Or.inl e))
  · rw [ti_lt, ti_0] at e
    rw [ok_cd]
    refine ⟨fun g => ?_, fun g => ?_⟩
    · rw [ti_le, ti_60] at g
      unfold f_M_tape_b33
      refine ok_cdf (by rw [ti_lt, ti_0]; exact e) ?_
      rw [ok_cd]
      refine ⟨fun q => ?_, fun q => ?_⟩
      · rw [ti_le, ti_0] at q
        exact b44 d' (Or.inr ⟨q, g⟩)
      · rw [ti_le, ti_0] at q
        exact ok_ret.mpr (hD c' (by omega) (by omega))
    · rw [ti_le, ti_60] at g
      exact ok_ret.mpr (hB c' (Or.inr (by omega)))
set_option maxHeartbeats 1000000 in
theorem p_tape (hN : 1000 ≤ N) (h : Sim w) : ok (f_X_tape N 0 a1 a2 a3 w) (fun r w1 => ok (f_M_tape N 133 a1 a2 a3 w1) (fun r' w2 => r = r' ∧ Sim w2)) := by
  have hx := lay_TP h.1
  unfold f_X_tape f_X_tape_b0
  refine ok_call c_Xtape' ?_
  rintro r1 u1 ⟨rfl, hr1⟩
  rw [ok_cd]
  refine ⟨fun cc => ?_, fun cc => ?_⟩
  · have c' := hr1.z.mp cc
    exact ok_ret.mpr (c_Mtapecall hN h.1 (fun _ => ⟨rfl, h⟩) (fun z => absurd z c') (fun z => absurd z c') (fun t _ _ _ ht htt => absurd ⟨by omega, by omega⟩ c'))
  have c' := Classical.not_not.mp (fun z => cc (hr1.z.mpr z))
  obtain ⟨t, htt⟩ : ∃ t : Nat, a1.toInt = (t : Int) := ⟨a1.toInt.toNat, by omega⟩
  have ht : t < 6 := by omega
  have n1 := nat_of htt
  have g1 := ix_of (m := 6) htt ht
  rw [n1] at g1
  -- behind the class' part
  have fin : ∀ (n r : Int32) (m : Nat) (u : gW), (-1 ≤ a2.toInt ∧ a2.toInt ≤ 4) → ((a2.toInt < 0 ∧ n = 0) ∨ (0 ≤ a2.toInt ∧ n = a3 ∧ 0 ≤ a3.toInt ∧ a3.toInt ≤ 60)) → n.toInt = (m : Int) → r.toInt = 1 → Fr [76, 77, 79 + t] [] u1 u → (∀ j, gI u 76 j = if j = t then a2 else gI u1 76 j) → (∀ j, gI u 77 j = if j = t then n else gI u1 77 j) → (∀ k, k < m → gL u (79 + t) k = 0) → ok (f_M_tape N 133 a1 a2 a3 u) (fun r' w2 => r = r' ∧ Sim w2) := by
    intro n r m u hs hn hm hr f e76 e77 el
    refine c_Mtapecall hN (f.lay h.1) (fun z => absurd c' z) (fun _ z => ?_) (fun _ z1 z2 => ?_) (fun t' n' r' z ht' htt' _ hn' hr' f' e178 e179 ez eo => ?_)
    · omega
    · omega
    · have et : t' = t := by omega
      subst et
      have en : n' = n := by
        rcases hn with ⟨p1, p2⟩ | ⟨p1, p2, -⟩ <;> rcases hn' with ⟨q1, q2⟩ | ⟨q1, q2, -⟩
        · rw [p2, q2]
        · omega
        · omega
        · rw [p2, q2]
      subst en
      have hn60 : 0 ≤ n'.toInt ∧ n'.toInt ≤ 60 := by
        rcases hn with ⟨p1, p2⟩ | ⟨p1, p2, p3, p4⟩
        · rw [p2, ti_0]; omega
        · rw [p2]; omega
      have hz0 : a2.toInt < 0 → n'.toInt = 0 := fun hl => by
        rcases hn with ⟨p1, p2⟩ | ⟨p1, p2, p3, p4⟩
        · rw [p2]; rfl
        · omega
      have f2 : Fr TT [] u1 z := (f.up (fun a ha => by simp only [List.mem_cons, List.not_mem_nil, or_false] at ha ⊢; omega) (by simp)).tr (f'.up (by simp) (by simp))
      refine ⟨ti_eq.mpr (by rw [hr, hr']), tape_fin h ht' hs hn60 hz0 f2 (fun j => ?_) (fun j => ?_) (fun j => ?_) (fun j => ?_) (fun q k hq hk hl => ?_)⟩
      · rw [f'.i ⟨by decide, by simp⟩]; exact e76 j
      · rw [f'.i ⟨by decide, by simp⟩]; exact e77 j
      · rw [e178, f.i ⟨by simp; omega, by simp⟩]
      · rw [e179, f.i ⟨by simp; omega, by simp⟩]
      · rw [e179] at hl
        have e0 : gL z (79 + q) k = gL u (79 + q) k := f'.l (by simp; omega)
        by_cases e : q = t'
        · subst e
          rw [if_pos rfl] at hl
          rw [e0, el k (by omega), ez k hk]
        · rw [if_neg e, f.i ⟨by simp; omega, by simp⟩] at hl
          have := h.2.1.itm q k hq hk hl
          rw [e0, f.l (by simp; omega), this, eo _ (by omega), f.l (by simp; omega)]
  rw [ok_cd]
  refine ⟨fun d => ?_, fun d => ?_⟩
  · rw [ti_eq, ti_n1] at d
    simp only [ok_gd, ok_bd, ok_rr1, ok_nr0, ok_nr1, ok_ret, true_and, and_true, not_false_eq_true, sh_sI, sh_sR, sh_sL, gR_sI, gR_sL, gI_sR, gI_sL, sh_cI, gR_cI, hx, n1, g1]
    refine fin 0 1 0 _ (by omega) (Or.inl ⟨by omega, rfl⟩) rfl ti_1 (Fr_sI (Fr_sI Fr.rf (by simp)) (by simp)) (fun j => ?_) (fun j => ?_) (fun k hk => absurd hk (by omega))
    · rw [gI_ne (by decide), gI_sI]
      have e2 : a2 = -1 := ti_eq.mpr (by rw [d, ti_n1])
      by_cases e : j = t
      · rw [if_pos ⟨rfl, e⟩, if_pos e, e2]
      · rw [if_neg (fun q => e q.2), if_neg e]
    · rw [gI_sI]
      by_cases e : j = t
      · rw [if_pos ⟨rfl, e⟩, if_pos e]
      · rw [if_neg (fun q => e q.2), if_neg e, gI_ne (by decide)]
  · rw [ti_eq, ti_n1] at d
    have bad : (¬ (-1 ≤ a2.toInt ∧ a2.toInt ≤ 4) ∨ (0 ≤ a2.toInt ∧ 60 < a3.toInt)) → ok (some ((-2 : Int32), u1)) (fun r w1 => ok (f_M_tape N 133 a1 a2 a3 w1) (fun r' w2 => r = r' ∧ Sim w2)) := fun hb =>
      ok_ret.mpr (c_Mtapecall hN h.1 (fun z => absurd c' z) (fun _ _ => ⟨rfl, h⟩) (fun _ z1 z2 => by omega) (fun t n r z _ _ hs hn _ _ _ _ _ _ => by omega))
    rw [ok_cd]
    refine ⟨fun e => ?_, fun e => ?_⟩
    · rw [ti_lt, ti_0] at e
      exact bad (Or.inl (by omega))
    · rw [ti_lt, ti_0] at e
      rw [ok_cd]
      refine ⟨fun g => ?_, fun g => ?_⟩
      · rw [ti_lt, ti_4] at g
        exact bad (Or.inl (by omega))
      · rw [ti_lt, ti_4] at g
        rw [ok_cd]
        refine ⟨fun q => ?_, fun q => ?_⟩
        · rw [ti_le, ti_60] at q
          rw [ok_cd]
          refine ⟨fun v => ?_, fun v => ?_⟩
          · rw [ti_le, ti_0] at v
            obtain ⟨m, hm⟩ : ∃ m : Nat, a3.toInt = (m : Int) := ⟨a3.toInt.toNat, by omega⟩
            simp only [ok_gd, ok_bd, ok_rr1, ok_nr0, ok_nr1, ok_ret, true_and, and_true, not_false_eq_true, sh_sI, sh_sR, sh_sL, gR_sI, gR_sL, gI_sR, gI_sL, sh_cI, gR_cI, hx, n1, g1]
            have f1 : Fr [76, 77, 79 + t] [] u1 (sI (sI u1 76 t a2) 77 t a3) := Fr_sI (Fr_sI Fr.rf (by simp)) (by simp)
            refine (c_Xclear (n := m) hN (f1.lay h.1) htt ht hm (by omega)).mono ?_
            rintro r2 u2 ⟨hr2, f2, ei, ez⟩
            refine fin a3 r2 m u2 (by omega) (Or.inr ⟨by omega, rfl, v, q⟩) hm hr2 (f1.tr (f2.up (by simp) (by simp))) (fun j => ?_) (fun j => ?_) ez
            · rw [ei, gI_ne (by decide), gI_sI]
              by_cases e : j = t
              · rw [if_pos ⟨rfl, e⟩, if_pos e]
              · rw [if_neg (fun q => e q.2), if_neg e]
            · rw [ei, gI_sI]
              by_cases e : j = t
              · rw [if_pos ⟨rfl, e⟩, if_pos e]
              · rw [if_neg (fun q => e q.2), if_neg e, gI_ne (by decide)]
          · rw [ti_le, ti_0] at v
            exact ok_ret.mpr (c_Mtapecall hN h.1 (fun z => absurd c' z) (fun _ z => by omega) (fun _ _ _ => ⟨rfl, h⟩) (fun t n r z _ _ hs hn _ _ _ _ _ _ => by omega))
        · rw [ti_le, ti_60] at q
          exact bad (Or.inr (by omega))
end TAPEC
