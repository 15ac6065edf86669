/-! ===== shift, both sides =====  -/
section SHIFTD
variable {N t t' : Nat} {w u z : gW} {a1 a2 a3 a4 a5 : Int32}
theorem Sim.len60 (h : Sim w) : ∀ t, t < 6 → 0 ≤ (gI w 179 t).toInt ∧ (gI w 179 t).toInt ≤ 60 := fun t ht => h.2.1.lenr t ht
theorem shift_none (hN : 1000 ≤ N) (h : Sim w) (c : ¬ ((0 ≤ a1.toInt ∧ a1.toInt < 6) ∧ (0 ≤ a3.toInt ∧ a3.toInt < 6))) : ok (f_M_shift N 133 a1 a2 a3 a4 a5 w) (fun r' w2 => (-1 : Int32) = r' ∧ Sim w2) :=
  c_Mshift hN h.1 h.len60 (fun _ => ⟨rfl, h⟩) (fun x y _ _ _ _ => absurd ⟨⟨by omega, by omega⟩, by omega, by omega⟩ c) (fun x y _ _ _ _ => absurd ⟨⟨by omega, by omega⟩, by omega, by omega⟩ c) (fun x y _ _ _ _ => absurd ⟨⟨by omega, by omega⟩, by omega, by omega⟩ c) (fun x y _ _ _ _ _ _ _ _ => absurd ⟨⟨by omega, by omega⟩, by omega, by omega⟩ c)
theorem shift_no (hN : 1000 ≤ N) (h : Sim w) (ht : t < 6) (ht' : t' < 6) (e1 : a1.toInt = (t : Int)) (e3 : a3.toInt = (t' : Int)) {r : Int32} (kB : ((gI w 178 t).toInt < 0 ∨ (gI w 178 t').toInt < 0) → r = -11) (kC : 0 ≤ (gI w 178 t).toInt → 0 ≤ (gI w 178 t').toInt → ¬ gI w 178 t = gI w 178 t' → r = -12)
    (kD : 0 ≤ (gI w 178 t).toInt → 0 ≤ (gI w 178 t').toInt → gI w 178 t = gI w 178 t' → ¬ (stre a2 a5 (gI w 179 t) ∧ stre a4 a5 (gI w 179 t')) → r = -13) (kE : 0 ≤ (gI w 178 t).toInt → 0 ≤ (gI w 178 t').toInt → gI w 178 t = gI w 178 t' → stre a2 a5 (gI w 179 t) → stre a4 a5 (gI w 179 t') → False) :
    ok (f_M_shift N 133 a1 a2 a3 a4 a5 w) (fun r' w2 => r = r' ∧ Sim w2) := by
  refine c_Mshift hN h.1 h.len60 (fun c => absurd ⟨⟨by omega, by omega⟩, by omega, by omega⟩ c) (fun x y _ _ g1 g3 q => ?_) (fun x y _ _ g1 g3 q1 q2 q3 => ?_) (fun x y _ _ g1 g3 q1 q2 q3 q4 => ?_) (fun x y p q n z _ _ g1 g3 q1 q2 q3 q4 q5 _ _ _ _ _ => ?_)
  all_goals
    have ex : x = t := by omega
    have ey : y = t' := by omega
    subst ex ey
  · exact ⟨kB q, h⟩
  · exact ⟨kC q1 q2 q3, h⟩
  · exact ⟨kD q1 q2 q3 q4, h⟩
  · exact (kE q1 q2 q3 q4 q5).elim
theorem shift_yes (hN : 1000 ≤ N) (h : Sim w) (ht : t < 6) (ht' : t' < 6) (e1 : a1.toInt = (t : Int)) (e3 : a3.toInt = (t' : Int)) (k1 : 0 ≤ (gI w 178 t).toInt) (k2 : 0 ≤ (gI w 178 t').toInt) (k3 : gI w 178 t = gI w 178 t') (k4 : stre a2 a5 (gI w 179 t)) (k5 : stre a4 a5 (gI w 179 t'))
    {p q n : Nat} (hp : a2.toInt = (p : Int)) (hq : a4.toInt = (q : Int)) (hn : a5.toInt = (n : Int)) :
    ok (f_M_shift N 133 a1 a2 a3 a4 a5 (cL w (79 + t) p (79 + t') q n)) (fun r' w2 => a5 = r' ∧ Sim w2) := by
  have f : Fr [79 + t'] [] w (cL w (79 + t) p (79 + t') q n) := Fr_cL Fr.rf (by simp)
  have l1 := h.len60 t ht
  have l2 := h.len60 t' ht'
  have b1 := k4.2.2
  have b2 := k5.2.2
  rw [hp, hn] at b1
  rw [hq, hn] at b2
  refine c_Mshift hN (f.lay h.1) h.len60 (fun c => absurd ⟨⟨by omega, by omega⟩, by omega, by omega⟩ c) (fun x y _ _ g1 g3 s => ?_) (fun x y _ _ g1 g3 q1 q2 q3 => ?_) (fun x y _ _ g1 g3 q1 q2 q3 q4 => ?_) (fun x y p' q' n' z _ _ g1 g3 q1 q2 q3 q4 q5 hp' hq' hn' fz hz' => ?_)
  all_goals
    have ex : x = t := by omega
    have ey : y = t' := by omega
    subst ex ey
  · simp only [gI_cL] at s; omega
  · exact absurd k3 q3
  · exact absurd ⟨k4, k5⟩ q4
  · have ep : p' = p := by omega
    have eq : q' = q := by omega
    have en : n' = n := by omega
    subst ep eq en
    refine ⟨rfl, h.u_item ((f.up (fun a ha => ?_) (by simp)).tr (fz.up (by simp) (by simp))) ?_⟩
    · simp only [List.mem_cons, List.not_mem_nil, or_false] at ha ⊢; omega
    · intro v k hv hk hl
      rw [fz.i ⟨by decide, by simp⟩, gI_cL] at hl
      rw [fz.l (by simp; omega), gL_cL, hz']
      by_cases e : v = y ∧ q' ≤ k ∧ k < q' + n'
      · rw [if_pos ⟨by omega, e.2.1, e.2.2⟩, if_pos (by omega), gL_cL, if_neg (fun z => by omega)]
        have g := h.2.1.itm x (p' + (k - q')) ht (by omega) (by omega)
        rw [g]
        congr 1; omega
      · rw [if_neg (fun z => e ⟨by omega, z.2.1, z.2.2⟩), if_neg (fun z => e ⟨by omega, by omega, by omega⟩), gL_cL, if_neg (fun z => by omega)]
        exact h.2.1.itm v k hv hk hl
end SHIFTD
