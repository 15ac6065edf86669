/-! ===== a payment in the class: the rank of a hand, the best one -/
def rkF (kd : Nat) (price : Int) (wg : List Nat → Int) (x : List Nat) : Int :=
  if kd = 1 then hsum x * 1000 + (if hsum x = price then - hcnt x else hcnt x) else if kd = 2 then hcnt x * 1000 + hsum x else if kd = 4 then wg x else if kd = 5 then hcnt x * 1000 - hsum x else hsum x * 1000 + hcnt x
def wgF (L : List Cl) (pu ti : Nat → Int) (price : Int) (x : List Nat) : Int := wgt L (fun s => pu s - gx x s + bx ti x price s)
theorem c_ranked {N : Nat} {w : gW} {a b : Int32} (h : -100000 ≤ a.toInt ∧ a.toInt ≤ 100000) :
    ok (f_P_ranked N a b w) (fun r u => u = w ∧ r.toInt = a.toInt * 1000 + b.toInt) := by
  have hb := J_in b
  unfold f_P_ranked f_P_ranked_b0
  simp only [ok_gd, ok_bd, ok_rr1, ok_nr0, ok_nr1, ok_ret, true_and, and_true, not_false_eq_true, sh_sI, sh_sR, sh_sL, gR_sI, gR_sL, gI_sR, gI_sL, sh_cI, gR_cI]
  have t1 : (a.toInt64 * 1000).toInt = a.toInt * 1000 := by rw [tl_mul] <;> rw [tl_i, tl_1000] <;> omega
  rw [tl_add] <;> rw [t1, tl_i] <;> omega
section CRANK
variable {N W o p kd v pd tp s : Nat} {w : gW} {pu ti ro : Nat → Int} {L : List Cl} {x : List Nat} {price : Int}
theorem c_rank_n (hc : CP w W o p kd v pd tp pu ti ro L) (hs : HS w x) (hx : h2 x) (hp : (gI w 66 7).toInt = price) (hk : kd ≠ 4) (wg : List Nat → Int) :
    ok (v_rank N o 66 w) (fun r u => u = w ∧ r.toInt = rkF kd price wg x) := by
  obtain ⟨hL, -, -, -, -, -, ⟨-, o2, o3, -⟩, -⟩ := hc
  obtain ⟨p0, -⟩ := lay_P hL
  have hsm := hx.sum
  have s1 := hs.2.2.1
  have s2 := hs.2.2.2
  have b1 : -100000 ≤ (gI w 66 8).toInt ∧ (gI w 66 8).toInt ≤ 100000 := by rw [s1]; omega
  have b2 : -100000 ≤ (gI w 66 9).toInt ∧ (gI w 66 9).toInt ≤ 100000 := by rw [s2]; omega
  have n8 : (- gI w 66 8).toInt = - hsum x := by
    have e : - gI w 66 8 = 0 - gI w 66 8 := by simp
    rw [e, ti_sub] <;> rw [s1, ti_0] <;> omega
  have n9 : (- gI w 66 9).toInt = - hcnt x := by
    have e : - gI w 66 9 = 0 - gI w 66 9 := by simp
    rw [e, ti_sub] <;> rw [s2, ti_0] <;> omega
  have pl : rkF 0 price wg x = hsum x * 1000 + hcnt x → ok (f_P_rank N o 66 w) (fun r u => u = w ∧ r.toInt = hsum x * 1000 + hcnt x) := fun _ => by
    unfold f_P_rank f_P_rank_b0
    simp only [ok_gd, ok_bd, ok_rr1, ok_nr0, ok_nr1, ok_ret, true_and, and_true, not_false_eq_true, sh_sI, sh_sR, sh_sL, gR_sI, gR_sL, gI_sR, gI_sL, sh_cI, gR_cI, p0]
    refine ok_call (c_ranked b1) ?_
    rintro r u ⟨rfl, hr⟩
    exact ok_ret.mpr ⟨rfl, by rw [hr, s1, s2]⟩
  unfold v_rank
  rw [o2]
  have hkd : kd = 0 ∨ kd = 1 ∨ kd = 2 ∨ kd = 3 ∨ kd = 5 ∨ kd = 6 := by omega
  rcases hkd with rfl | rfl | rfl | rfl | rfl | rfl
  · exact ok_cdt rfl (pl rfl)
  · refine ok_cdf (by decide) (ok_cdt rfl ?_)
    unfold f_E_rank f_E_rank_b0
    simp only [ok_gd, ok_bd, ok_rr1, ok_nr0, ok_nr1, ok_ret, true_and, and_true, not_false_eq_true, sh_sI, sh_sR, sh_sL, gR_sI, gR_sL, gI_sR, gI_sL, sh_cI, gR_cI, p0]
    rw [ok_cd]
    refine ⟨fun c => ?_, fun c => ?_⟩
    · rw [ti_eq, s1, hp] at c
      simp only [ok_gd, ok_bd, ok_rr1, ok_nr0, ok_nr1, ok_ret, true_and, and_true, not_false_eq_true, sh_sI, sh_sR, sh_sL, gR_sI, gR_sL, gI_sR, gI_sL, sh_cI, gR_cI, f_E_rank_b27]
      refine ok_call (c_ranked b1) ?_
      rintro r u ⟨rfl, hr⟩
      refine ok_ret.mpr ⟨rfl, ?_⟩
      rw [hr, n9, s1]; unfold rkF; rw [if_pos rfl, if_pos c]
    · rw [ti_eq, s1, hp] at c
      simp only [ok_gd, ok_bd, ok_rr1, ok_nr0, ok_nr1, ok_ret, true_and, and_true, not_false_eq_true, sh_sI, sh_sR, sh_sL, gR_sI, gR_sL, gI_sR, gI_sL, sh_cI, gR_cI, f_E_rank_b27]
      refine ok_call (c_ranked b1) ?_
      rintro r u ⟨rfl, hr⟩
      refine ok_ret.mpr ⟨rfl, ?_⟩
      rw [hr, s2, s1]; unfold rkF; rw [if_pos rfl, if_neg c]
  · refine ok_cdf (by decide) (ok_cdf (by decide) (ok_cdt rfl ?_))
    unfold f_Ro_rank f_Ro_rank_b0
    simp only [ok_gd, ok_bd, ok_rr1, ok_nr0, ok_nr1, ok_ret, true_and, and_true, not_false_eq_true, sh_sI, sh_sR, sh_sL, gR_sI, gR_sL, gI_sR, gI_sL, sh_cI, gR_cI, p0]
    refine ok_call (c_ranked b2) ?_
    rintro r u ⟨rfl, hr⟩
    exact ok_ret.mpr ⟨rfl, by rw [hr, s1, s2]; rfl⟩
  · exact ok_cdf (by decide) (ok_cdf (by decide) (ok_cdf (by decide) (ok_cdt rfl (pl rfl))))
  · refine ok_cdf (by decide) (ok_cdf (by decide) (ok_cdf (by decide) (ok_cdf (by decide) (ok_cdf (by decide) (ok_cdt rfl ?_)))))
    unfold f_Wi_rank f_Wi_rank_b0
    simp only [ok_gd, ok_bd, ok_rr1, ok_nr0, ok_nr1, ok_ret, true_and, and_true, not_false_eq_true, sh_sI, sh_sR, sh_sL, gR_sI, gR_sL, gI_sR, gI_sL, sh_cI, gR_cI, p0]
    refine ok_call (c_ranked b2) ?_
    rintro r u ⟨rfl, hr⟩
    refine ok_ret.mpr ⟨rfl, ?_⟩
    rw [hr, n8, s2]; rfl
  · exact ok_cdf (by decide) (ok_cdf (by decide) (ok_cdf (by decide) (ok_cdf (by decide) (ok_cdf (by decide) (ok_cdf (by decide) (ok_cdt rfl (pl rfl)))))))
theorem c_rank_4 (hN : 1000 ≤ N) (hc : CP w W o p 4 v pd tp pu ti ro L) (hpr : PR w W o) (hs : HS w x) (hx : h2 x) (hb : ∀ s, s < 6 → (gI w 69 s).toInt = bx ti x price s ∧ 0 ≤ bx ti x price s ∧ bx ti x price s ≤ 999) (hn : ∀ s, s < 6 → 0 ≤ pu s - gx x s) :
    ok (v_rank N o 66 w) (fun r u => u = w ∧ r.toInt = rkF 4 price (wgF L pu ti price) x) := by
  have hc' := hc
  obtain ⟨hL, -, -, -, -, -, ⟨-, o2, o3, -⟩, -⟩ := hc'
  obtain ⟨p0, -⟩ := lay_P hL
  unfold v_rank
  rw [o2]
  refine ok_cdf (by decide) (ok_cdf (by decide) (ok_cdf (by decide) (ok_cdf (by decide) (ok_cdt rfl ?_))))
  unfold f_Li_rank f_Li_rank_b0
  simp only [ok_gd, ok_bd, ok_rr1, ok_nr0, ok_nr1, ok_ret, true_and, and_true, not_false_eq_true, sh_sI, sh_sR, sh_sL, gR_sI, gR_sL, gI_sR, gI_sL, sh_cI, gR_cI, p0]
  refine ok_call (c_weightBehind hN hc hpr hs hx hb hn) ?_
  rintro r u ⟨rfl, hr⟩
  simp only [ok_gd, ok_bd, ok_rr1, ok_nr0, ok_nr1, ok_ret, true_and, and_true, not_false_eq_true, sh_sI, sh_sR, sh_sL, gR_sI, gR_sL, gI_sR, gI_sL, sh_cI, gR_cI]
  rw [tl_i, hr]; rfl
theorem c_thinks (hc : CP w W o p kd v pd tp pu ti ro L) : ok (v_thinksOfWeight N o w) (fun r u => u = w ∧ r.toInt = if kd = 4 then 1 else 0) := by
  obtain ⟨hL, -, -, -, -, -, ⟨-, o2, o3, -⟩, -⟩ := hc
  unfold v_thinksOfWeight
  rw [o2]
  have hkd : kd = 0 ∨ kd = 1 ∨ kd = 2 ∨ kd = 3 ∨ kd = 4 ∨ kd = 5 ∨ kd = 6 := by omega
  rcases hkd with rfl | rfl | rfl | rfl | rfl | rfl | rfl <;> simp [ok_cd, f_P_thinksOfWeight, f_P_thinksOfWeight_b0, f_Li_thinksOfWeight, f_Li_thinksOfWeight_b0, ok_ret, ti_0, ti_1]
/-- the sort that a payer doesn't hand over; -1: none -/
def barF (kd v pd : Nat) (ro : Nat → Int) : Int := if kd = 3 then ((v % 6 : Nat) : Int) else if kd = 6 then ro (pd % 4) else -1
theorem modn {x : Int32} {d n : Nat} (h : x.toInt = (d : Int)) (m : Int32) (hm : m = nI n) (hn : 0 < n ∧ n < 100) : (x - x / m * m).toInt = ((d % n : Nat) : Int) := by
  have := J_in x
  have h3 : d % n < n := Nat.mod_lt _ hn.1
  rw [nI_ti h, hm, pk_rem (by omega) hn.1 (by omega), nI_toInt (by omega)]
theorem c_parts {a2 : Int32} (hc : CP w W o p kd v pd tp pu ti ro L) (h1 : a2.toInt = (s : Int)) (hs : s < 6) :
    ok (v_partsWith N o W a2 w) (fun r u => u = w ∧ ((r.toInt = 1 ∧ (s : Int) ≠ barF kd v pd ro) ∨ (r.toInt = 0 ∧ (s : Int) = barF kd v pd ro))) := by
  obtain ⟨hL, hW, -, hp, -, -, ⟨-, o2, o3, -, o5, o6, o7⟩, -, -, q3, q4⟩ := hc
  obtain ⟨w0, -, -, w3, w4, -, -, -, -, -, -, -, -, z7, z12, -⟩ := lay_W hL hW
  obtain ⟨-, -, y3, y4⟩ := lay_Wp hL hW hp
  have pl : barF kd v pd ro = -1 → ok (f_P_partsWith N o W a2 w) (fun r u => u = w ∧ ((r.toInt = 1 ∧ (s : Int) ≠ barF kd v pd ro) ∨ (r.toInt = 0 ∧ (s : Int) = barF kd v pd ro))) := fun e => by
    unfold f_P_partsWith f_P_partsWith_b0
    exact ok_ret.mpr ⟨rfl, Or.inl ⟨ti_1, by rw [e]; omega⟩⟩
  have o7' : (sh w o).1 < 7 := by omega
  unfold v_partsWith
  rw [o2]
  have hkd : kd = 0 ∨ kd = 1 ∨ kd = 2 ∨ kd = 3 ∨ kd = 4 ∨ kd = 5 ∨ kd = 6 := by omega
  rcases hkd with rfl | rfl | rfl | rfl | rfl | rfl | rfl
  · exact ok_cdt rfl (pl rfl)
  · exact ok_cdf (by decide) (ok_cdt rfl (pl rfl))
  · exact ok_cdf (by decide) (ok_cdf (by decide) (ok_cdt rfl (pl rfl)))
  · refine ok_cdf (by decide) (ok_cdf (by decide) (ok_cdf (by decide) (ok_cdt rfl ?_)))
    unfold f_Ke_partsWith f_Ke_partsWith_b0
    simp only [ok_gd, ok_bd, ok_rr1, ok_nr0, ok_nr1, ok_ret, true_and, and_true, not_false_eq_true, sh_sI, sh_sR, sh_sL, gR_sI, gR_sL, gI_sR, gI_sL, sh_cI, gR_cI, o7']
    have m := modn o6 6 (n := 6) rfl (by omega)
    have eb : barF 3 v pd ro = ((v % 6 : Nat) : Int) := rfl
    rw [ok_cd]
    refine ⟨fun c => ?_, fun c => ?_⟩
    · rw [ti_eq, m, h1] at c
      exact ok_ret.mpr ⟨rfl, Or.inr ⟨ti_0, by rw [eb]; exact c⟩⟩
    · rw [ti_eq, m, h1] at c
      exact ok_ret.mpr ⟨rfl, Or.inl ⟨ti_1, by rw [eb]; exact c⟩⟩
  · exact ok_cdf (by decide) (ok_cdf (by decide) (ok_cdf (by decide) (ok_cdf (by decide) (ok_cdt rfl (pl rfl)))))
  · exact ok_cdf (by decide) (ok_cdf (by decide) (ok_cdf (by decide) (ok_cdf (by decide) (ok_cdf (by decide) (ok_cdt rfl (pl rfl))))))
  · refine ok_cdf (by decide) (ok_cdf (by decide) (ok_cdf (by decide) (ok_cdf (by decide) (ok_cdf (by decide) (ok_cdf (by decide) (ok_cdt rfl ?_))))))
    have n1 := nat_of o5
    have g1 := ix_of (m := 4) o5 hp
    rw [n1] at g1
    have m := modn q3 4 (n := 4) rfl (by omega)
    have hm4 : pd % 4 < 4 := Nat.mod_lt _ (by omega)
    unfold f_To_partsWith f_To_partsWith_b0
    generalize hxm : (gI w (W + 12) p - gI w (W + 12) p / 4 * 4) = xm at m
    have n2 := nat_of m
    have g2 := ix_of (m := 4) m hm4
    rw [n2] at g2
    simp only [ok_gd, ok_bd, ok_rr1, ok_nr0, ok_nr1, ok_ret, true_and, and_true, not_false_eq_true, sh_sI, sh_sR, sh_sL, gR_sI, gR_sL, gI_sR, gI_sL, sh_cI, gR_cI, o7', w0, w3, w4, z7, z12, y3, y4, n1, g1, hxm, n2, g2]
    have eb : barF 6 v pd ro = ro (pd % 4) := rfl
    have q := (q4 _ hm4).1
    rw [ok_cd]
    refine ⟨fun c => ?_, fun c => ?_⟩
    · rw [ti_eq, q, h1] at c
      exact ok_ret.mpr ⟨rfl, Or.inr ⟨ti_0, by rw [eb]; exact c⟩⟩
    · rw [ti_eq, q, h1] at c
      exact ok_ret.mpr ⟨rfl, Or.inl ⟨ti_1, by rw [eb]; exact c⟩⟩
end CRANK
