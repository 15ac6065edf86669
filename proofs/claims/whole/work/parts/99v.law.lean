/-! ===== the calls of the law; by program ===== -/
section LAW
variable {N L c kc ks : Nat} {w u : gW} {xs : Nat → Int32} {r : Int32} {rl : Int64}
theorem sh_payer {a1 : Int32} {a2 : Int32} (hN : 1000 ≤ N) (h : ok (f_M_payer N 133 a1 a2 w) (fun r' w2 => r = r' ∧ Sim w2)) : (sh w 133).1 = 12 := by
  unfold f_M_payer f_M_payer_b0 at h
  exact (ok_gd.mp h).1
theorem sh_of {a1 : Int32} {a2 : Int32} (hN : 1000 ≤ N) (h : ok (f_M_of N 133 a1 a2 w) (fun r' w2 => r = r' ∧ Sim w2)) : (sh w 133).1 = 12 := by
  unfold f_M_of f_M_of_b0 at h
  exact (ok_gd.mp h).1
theorem sh_purse {a1 : Int32} {a2 : Int32} {a3 : Int32} (hN : 1000 ≤ N) (h : ok (f_M_purse N 133 a1 a2 a3 w) (fun r' w2 => r = r' ∧ Sim w2)) : (sh w 133).1 = 12 := by
  unfold f_M_purse f_M_purse_b0 at h
  exact (ok_gd.mp h).1
theorem sh_till {a1 : Int32} {a2 : Int32} (hN : 1000 ≤ N) (h : ok (f_M_till N 133 a1 a2 w) (fun r' w2 => r = r' ∧ Sim w2)) : (sh w 133).1 = 12 := by
  unfold f_M_till f_M_till_b0 at h
  exact (ok_gd.mp h).1
theorem sh_row {a1 : Int32} {a2 : Int32} {a3 : Int32} (hN : 1000 ≤ N) (h : ok (f_M_row N 133 a1 a2 a3 w) (fun r' w2 => r = r' ∧ Sim w2)) : (sh w 133).1 = 12 := by
  unfold f_M_row f_M_row_b0 at h
  exact (ok_gd.mp h).1
theorem sh_feed {a1 : Int32} (hN : 1000 ≤ N) (h : ok (f_M_feed N 133 a1 w) (fun r' w2 => r = r' ∧ Sim w2)) : (sh w 133).1 = 12 := by
  unfold f_M_feed f_M_feed_b0 at h
  exact (ok_gd.mp h).1
theorem sh_town  (hN : 1000 ≤ N) (h : ok (f_M_town N 133 w) (fun r' w2 => r = r' ∧ Sim w2)) : (sh w 133).1 = 12 := by
  unfold f_M_town f_M_town_b0 at h
  exact (ok_gd.mp h).1
theorem sh_told {a1 : Int32} (hN : 1000 ≤ N) (h : ok (f_M_told N 133 a1 w) (fun r' w2 => r = r' ∧ Sim w2)) : (sh w 133).1 = 12 := by
  unfold f_M_told f_M_told_b0 at h
  rw [ok_cd] at h
  by_cases c0 : a1 = 0
  · exact (ok_gd.mp (h.1 c0)).1
  · exact (ok_gd.mp (h.2 c0)).1
theorem sh_pay {a1 : Int32} {a2 : Int32} (hN : 1000 ≤ N) (h : ok (f_M_pay N 133 a1 a2 w) (fun r' w2 => r = r' ∧ Sim w2)) : (sh w 133).1 = 12 := by
  unfold f_M_pay f_M_pay_b0 at h
  exact (ok_gd.mp h).1
theorem sh_would {a1 : Int32} {a2 : Int32} {a3 : Int32} (hN : 1000 ≤ N) (h : ok (f_M_would N 133 a1 a2 a3 w) (fun r' w2 => r = r' ∧ Sim w2)) : (sh w 133).1 = 12 := by
  unfold f_M_would f_M_would_b0 at h
  exact (ok_gd.mp h).1
theorem sh_least {a1 : Int32} {a2 : Int32} {a3 : Int32} (hN : 1000 ≤ N) (h : ok (f_M_least N 133 a1 a2 a3 w) (fun r' w2 => r = r' ∧ Sim w2)) : (sh w 133).1 = 12 := by
  unfold f_M_least f_M_least_b0 at h
  exact (ok_gd.mp h).1
theorem sh_exactly {a1 : Int32} (hN : 1000 ≤ N) (h : ok (f_M_exactly N 133 a1 w) (fun r' w2 => r = r' ∧ Sim w2)) : (sh w 133).1 = 12 := by
  unfold f_M_exactly f_M_exactly_b0 at h
  exact (ok_gd.mp h).1
theorem sh_price {a1 : Int32} (hN : 1000 ≤ N) (h : ok (f_M_price N 133 a1 w) (fun r' w2 => r = r' ∧ Sim w2)) : (sh w 133).1 = 12 := by
  unfold f_M_price f_M_price_b0 at h
  rw [ok_cd] at h
  by_cases c0 : a1 = (-1)
  · exact (ok_gd.mp (h.1 c0)).1
  · exact (ok_gd.mp (h.2 c0)).1
theorem sh_behind {a1 : Int32} {a2 : Int32} (hN : 1000 ≤ N) (h : ok (f_M_behind N 133 a1 a2 w) (fun r' w2 => r = r' ∧ Sim w2)) : (sh w 133).1 = 12 := by
  unfold f_M_behind f_M_behind_b0 at h
  exact (ok_gd.mp h).1
theorem sh_who  (hN : 1000 ≤ N) (h : ok (f_M_who N 133 w) (fun r' w2 => r = r' ∧ Sim w2)) : (sh w 133).1 = 12 := by
  unfold f_M_who f_M_who_b0 at h
  unfold f_M_who_l7 at h
  obtain ⟨N1, rfl⟩ : ∃ N1, N = N1 + 1 := ⟨N - 1, by omega⟩
  rw [itr_s] at h
  simp only [f_M_who_b7] at h
  exact (ok_gd.mp h).1
theorem sh_next {a1 : Int32} (hN : 1000 ≤ N) (h : ok (f_M_next N 133 a1 w) (fun r' w2 => r = r' ∧ Sim w2)) : (sh w 133).1 = 12 := by
  unfold f_M_next f_M_next_b0 at h
  exact (ok_gd.mp h).1
theorem sh_shortOf {a1 : Int32} (hN : 1000 ≤ N) (h : ok (f_M_shortOf N 133 a1 w) (fun r' w2 => r = r' ∧ Sim w2)) : (sh w 133).1 = 12 := by
  unfold f_M_shortOf f_M_shortOf_b0 at h
  exact (ok_gd.mp h).1
theorem sh_more {a1 : Int32} {a2 : Int32} {a3 : Int32} (hN : 1000 ≤ N) (h : ok (f_M_more N 133 a1 a2 a3 w) (fun r' w2 => r = r' ∧ Sim w2)) : (sh w 133).1 = 12 := by
  unfold f_M_more f_M_more_b0 at h
  exact (ok_gd.mp h).1
theorem sh_heaviest {a1 : Int32} {a2 : Int32} (hN : 1000 ≤ N) (h : ok (f_M_heaviest N 133 a1 a2 w) (fun r' w2 => r = r' ∧ Sim w2)) : (sh w 133).1 = 12 := by
  unfold f_M_heaviest f_M_heaviest_b0 at h
  exact (ok_gd.mp h).1
theorem sh_see {a1 : Int32} {a2 : Int32} (hN : 1000 ≤ N) (h : ok (f_M_see N 133 a1 a2 w) (fun r' w2 => r = r' ∧ Sim w2)) : (sh w 133).1 = 12 := by
  unfold f_M_see f_M_see_b0 at h
  rw [ok_cd] at h
  by_cases c0 : a1 = (-1)
  · exact (ok_gd.mp (h.1 c0)).1
  · exact (ok_gd.mp (h.2 c0)).1
theorem sh_fits  (hN : 1000 ≤ N) (h : ok (f_M_fits N 133 w) (fun r' w2 => r = r' ∧ Sim w2)) : (sh w 133).1 = 12 := by
  unfold f_M_fits f_M_fits_b0 at h
  unfold f_M_fits_l4 at h
  obtain ⟨N1, rfl⟩ : ∃ N1, N = N1 + 1 := ⟨N - 1, by omega⟩
  rw [itr_s] at h
  simp only [f_M_fits_b4] at h
  exact (ok_gd.mp h).1
theorem sh_odds {a1 : Int32} {a2 : Int32} (hN : 1000 ≤ N) (h : ok (f_M_odds N 133 a1 a2 w) (fun r' w2 => rl = r' ∧ Sim w2)) : (sh w 133).1 = 12 := by
  unfold f_M_odds f_M_odds_b0 at h
  exact (ok_gd.mp h).1
theorem sh_mean {a1 : Int32} {a2 : Int32} (hN : 1000 ≤ N) (h : ok (f_M_mean N 133 a1 a2 w) (fun r' w2 => rl = r' ∧ Sim w2)) : (sh w 133).1 = 12 := by
  unfold f_M_mean f_M_mean_b0 at h
  exact (ok_gd.mp h).1
theorem sh_book {a1 : Int32} {a2 : Int32} (hN : 1000 ≤ N) (h : ok (f_M_book N 133 a1 a2 w) (fun r' w2 => r = r' ∧ Sim w2)) : (sh w 133).1 = 12 := by
  unfold f_M_book f_M_book_b0 at h
  rw [ok_cd] at h
  by_cases c0 : a1 = (-1)
  · exact (ok_gd.mp (h.1 c0)).1
  · exact (ok_gd.mp (h.2 c0)).1
theorem sh_looked  (hN : 1000 ≤ N) (h : ok (f_M_looked N 133 w) (fun r' w2 => r = r' ∧ Sim w2)) : (sh w 133).1 = 12 := by
  unfold f_M_looked f_M_looked_b0 at h
  exact (ok_gd.mp h).1
theorem sh_judge {a1 : Int32} {a2 : Int32} (hN : 1000 ≤ N) (h : ok (f_M_judge N 133 a1 a2 w) (fun r' w2 => r = r' ∧ Sim w2)) : (sh w 133).1 = 12 := by
  unfold f_M_judge f_M_judge_b0 at h
  exact (ok_gd.mp h).1
theorem sh_image  (hN : 1000 ≤ N) (h : ok (f_M_image N 133 w) (fun r' w2 => r = r' ∧ Sim w2)) : (sh w 133).1 = 12 := by
  unfold f_M_image f_M_image_b0 at h
  exact (ok_gd.mp h).1
theorem sh_undo  (hN : 1000 ≤ N) (h : ok (f_M_undo N 133 w) (fun r' w2 => r = r' ∧ Sim w2)) : (sh w 133).1 = 12 := by
  unfold f_M_undo f_M_undo_b0 at h
  exact (ok_gd.mp h).1
theorem sh_act {a1 : Int32} {a2 : Int32} {a3 : Int32} (hN : 1000 ≤ N) (h : ok (f_M_act N 133 a1 a2 a3 w) (fun r' w2 => r = r' ∧ Sim w2)) : (sh w 133).1 = 12 := by
  unfold f_M_act f_M_act_b0 at h
  exact (ok_gd.mp h).1
theorem sh_trace {a1 : Int32} (hN : 1000 ≤ N) (h : ok (f_M_trace N 133 a1 w) (fun r' w2 => r = r' ∧ Sim w2)) : (sh w 133).1 = 12 := by
  unfold f_M_trace f_M_trace_b0 at h
  exact (ok_gd.mp h).1
theorem sh_taken {a1 : Int32} {a2 : Int32} (hN : 1000 ≤ N) (h : ok (f_M_taken N 133 a1 a2 w) (fun r' w2 => r = r' ∧ Sim w2)) : (sh w 133).1 = 12 := by
  unfold f_M_taken f_M_taken_b0 at h
  exact (ok_gd.mp h).1
theorem sh_count {a1 : Int32} (hN : 1000 ≤ N) (h : ok (f_M_count N 133 a1 w) (fun r' w2 => r = r' ∧ Sim w2)) : (sh w 133).1 = 12 := by
  unfold f_M_count f_M_count_b0 at h
  rw [ok_cd] at h
  by_cases c0 : a1 = 0
  · exact (ok_gd.mp (h.1 c0)).1
  have h := h.2 c0
  rw [ok_cd] at h
  by_cases c1 : a1 = 1
  · exact (ok_gd.mp (h.1 c1)).1
  have h := h.2 c1
  rw [ok_cd] at h
  by_cases c2 : a1 = 2
  · exact (ok_gd.mp (h.1 c2)).1
  have h := h.2 c2
  rw [ok_cd] at h
  by_cases c3 : a1 = 3
  · exact (ok_gd.mp (h.1 c3)).1
  have h := h.2 c3
  rw [ok_cd] at h
  by_cases c4 : a1 = 4
  · exact (ok_gd.mp (h.1 c4)).1
  have h := h.2 c4
  rw [ok_cd] at h
  by_cases c5 : a1 = 5
  · exact (ok_gd.mp (h.1 c5)).1
  have h := h.2 c5
  rw [ok_cd] at h
  by_cases c6 : a1 = 6
  · exact (ok_gd.mp (h.1 c6)).1
  have h := h.2 c6
  have h := (ok_ret.mp h).2
  exact (by have := (lay_M h.1).1; rw [this])
theorem sh_tape {a1 : Int32} {a2 : Int32} {a3 : Int32} (hN : 1000 ≤ N) (h : ok (f_M_tape N 133 a1 a2 a3 w) (fun r' w2 => r = r' ∧ Sim w2)) : (sh w 133).1 = 12 := by
  unfold f_M_tape f_M_tape_b0 at h
  exact (ok_gd.mp h).1
theorem sh_item {a1 : Int32} {a2 : Int32} {a3 : Int64} (hN : 1000 ≤ N) (h : ok (f_M_item N 133 a1 a2 a3 w) (fun r' w2 => r = r' ∧ Sim w2)) : (sh w 133).1 = 12 := by
  unfold f_M_item f_M_item_b0 at h
  exact (ok_gd.mp h).1
theorem sh_read {a1 : Int32} {a2 : Int32} (hN : 1000 ≤ N) (h : ok (f_M_read N 133 a1 a2 w) (fun r' w2 => rl = r' ∧ Sim w2)) : (sh w 133).1 = 12 := by
  unfold f_M_read f_M_read_b0 at h
  exact (ok_gd.mp h).1
theorem sh_shift {a1 : Int32} {a2 : Int32} {a3 : Int32} {a4 : Int32} {a5 : Int32} (hN : 1000 ≤ N) (h : ok (f_M_shift N 133 a1 a2 a3 a4 a5 w) (fun r' w2 => r = r' ∧ Sim w2)) : (sh w 133).1 = 12 := by
  unfold f_M_shift f_M_shift_b0 at h
  exact (ok_gd.mp h).1
/-- where the law stands -/
def LI (k : Nat) (q : Nat × Nat × Int32 × Nat × Nat × gW) : Prop := q.1 = 0 ∧ q.2.1 = 133 ∧ q.2.2.1.toInt = ((6 * k : Nat) : Int) ∧ q.2.2.2.1 ≤ 182 + k ∧ q.2.2.2.2.1 ≤ 4022 + 3 * k ∧ Sim q.2.2.2.2.2
theorem x_ix {a : Int32} {m d : Nat} (h : a.toInt = (m : Int)) (hd : m + d < L) (hL : L ≤ 3072) (b : Int32) (hb : b.toInt = (d : Int)) : ¬ (a + b < 0 ∨ L ≤ (a + b).toNatClampNeg) := by
  have e : (a + b).toInt = ((m + d : Nat) : Int) := by rw [ti_add] <;> rw [h, hb] <;> omega
  exact ix_of (m := L) e hd
set_option maxRecDepth 20000 in
set_option maxHeartbeats 8000000 in
theorem law_step {rec : Nat × Nat × Int32 × Nat × Nat × gW → Option (Int32 × gW)} {Q : Int32 → gW → Prop} {a3 : Int32} (hN : 1000 ≤ N) (hL : L ≤ 3072) (hc : 6 * c + 6 ≤ L) (h3 : a3.toInt = ((6 * c : Nat) : Int)) (hk : kc ≤ 182 + c) (hs : ks ≤ 4022 + 3 * c) (h : Sim u) (IH : ∀ q, LI (c + 1) q → ok (rec q) Q) : ok (f_Law_law_b18 N L xs rec 0 133 a3 kc ks u) Q := by
  have hx := (lay_X h.1).1
  have g0 : ¬ (a3 < 0 ∨ L ≤ a3.toNatClampNeg) := ix_of (m := L) h3 (by omega)
  have g1 := x_ix (L := L) (d := 1) h3 (by omega) hL 1 rfl
  have g2 := x_ix (L := L) (d := 2) h3 (by omega) hL 2 rfl
  have g3 := x_ix (L := L) (d := 3) h3 (by omega) hL 3 rfl
  have g4 := x_ix (L := L) (d := 4) h3 (by omega) hL 4 rfl
  have g5 := x_ix (L := L) (d := 5) h3 (by omega) hL 5 rfl
  have b1 : kc ≤ 605105 := by omega
  have b2 : ks ≤ 7286932 := by omega
  have b3 : kc + 1 ≤ 605105 := by omega
  have b4 : ks + 3 ≤ 7286932 := by omega
  have e6 : (a3 + 6).toInt = ((6 * (c + 1) : Nat) : Int) := by rw [ti_add] <;> rw [h3] <;> show _ <;> rw [ti_6] <;> omega
  have go : ∀ w, Sim w → ok (rec (0, 133, a3 + 6, kc, ks, w)) Q := fun w hw => IH _ ⟨rfl, rfl, e6, by show kc ≤ _; omega, by show ks ≤ _; omega, hw⟩
  have go1 : ∀ w, Sim w → ok (rec (0, 133, a3 + 6, kc + 1, ks + 3, w)) Q := fun w hw => IH _ ⟨rfl, rfl, e6, by show kc + 1 ≤ _; omega, by show ks + 3 ≤ _; omega, hw⟩
  have eL : (Int32.ofNat L - 6).toInt = (L : Int) - 6 := by
    have e : (Int32.ofNat L).toInt = (L : Int) := Int32.toInt_ofNat_of_lt (by omega)
    rw [ti_sub] <;> rw [e, ti_6]; omega
  unfold f_Law_law_b18
  rw [ok_bd, ok_bd]
  refine ok_cdf (by rw [ti_lt, eL, h3]; omega) ?_
  refine ok_gdt g0 ?_
  rw [ok_bd, ok_bd]
  rw [ok_cd]
  refine ⟨fun _ => ?_, fun _ => ?_⟩
  · simp only [ok_bd, ok_gd, true_and, and_true, and_self, not_false_eq_true, g1, g2, g3, g4, g5, b1, b2, b3, b4, hx]
    refine ok_call (p_payer hN h) ?_
    rintro r w hM
    have s := sh_payer hN hM
    simp only [ok_bd, ok_gd, true_and, and_true, and_self, not_false_eq_true, g1, g2, g3, g4, g5, b1, b2, b3, b4, s]
    refine ok_call hM ?_
    rintro r' w2 ⟨rfl, hS⟩
    refine ok_cdt rfl ?_
    rw [ok_bd]
    exact go1 w2 hS
  rw [ok_cd]
  refine ⟨fun _ => ?_, fun _ => ?_⟩
  · simp only [ok_bd, ok_gd, true_and, and_true, and_self, not_false_eq_true, g1, g2, g3, g4, g5, b1, b2, b3, b4, hx]
    refine ok_call (p_of hN h) ?_
    rintro r w hM
    have s := sh_of hN hM
    simp only [ok_bd, ok_gd, true_and, and_true, and_self, not_false_eq_true, g1, g2, g3, g4, g5, b1, b2, b3, b4, s]
    refine ok_call hM ?_
    rintro r' w2 ⟨rfl, hS⟩
    refine ok_cdt rfl ?_
    rw [ok_bd]
    exact go w2 hS
  rw [ok_cd]
  refine ⟨fun _ => ?_, fun _ => ?_⟩
  · simp only [ok_bd, ok_gd, true_and, and_true, and_self, not_false_eq_true, g1, g2, g3, g4, g5, b1, b2, b3, b4, hx]
    refine ok_call (p_purse h) ?_
    rintro r w hM
    have s := sh_purse hN hM
    simp only [ok_bd, ok_gd, true_and, and_true, and_self, not_false_eq_true, g1, g2, g3, g4, g5, b1, b2, b3, b4, s]
    refine ok_call hM ?_
    rintro r' w2 ⟨rfl, hS⟩
    refine ok_cdt rfl ?_
    rw [ok_bd]
    exact go w2 hS
  rw [ok_cd]
  refine ⟨fun _ => ?_, fun _ => ?_⟩
  · simp only [ok_bd, ok_gd, true_and, and_true, and_self, not_false_eq_true, g1, g2, g3, g4, g5, b1, b2, b3, b4, hx]
    refine ok_call (p_till h) ?_
    rintro r w hM
    have s := sh_till hN hM
    simp only [ok_bd, ok_gd, true_and, and_true, and_self, not_false_eq_true, g1, g2, g3, g4, g5, b1, b2, b3, b4, s]
    refine ok_call hM ?_
    rintro r' w2 ⟨rfl, hS⟩
    refine ok_cdt rfl ?_
    rw [ok_bd]
    exact go w2 hS
  rw [ok_cd]
  refine ⟨fun _ => ?_, fun _ => ?_⟩
  · simp only [ok_bd, ok_gd, true_and, and_true, and_self, not_false_eq_true, g1, g2, g3, g4, g5, b1, b2, b3, b4, hx]
    refine ok_call (p_row h) ?_
    rintro r w hM
    have s := sh_row hN hM
    simp only [ok_bd, ok_gd, true_and, and_true, and_self, not_false_eq_true, g1, g2, g3, g4, g5, b1, b2, b3, b4, s]
    refine ok_call hM ?_
    rintro r' w2 ⟨rfl, hS⟩
    refine ok_cdt rfl ?_
    rw [ok_bd]
    exact go w2 hS
  rw [ok_cd]
  refine ⟨fun _ => ?_, fun _ => ?_⟩
  · simp only [ok_bd, ok_gd, true_and, and_true, and_self, not_false_eq_true, g1, g2, g3, g4, g5, b1, b2, b3, b4, hx]
    refine ok_call (p_feed h) ?_
    rintro r w hM
    have s := sh_feed hN hM
    simp only [ok_bd, ok_gd, true_and, and_true, and_self, not_false_eq_true, g1, g2, g3, g4, g5, b1, b2, b3, b4, s]
    refine ok_call hM ?_
    rintro r' w2 ⟨rfl, hS⟩
    refine ok_cdt rfl ?_
    rw [ok_bd]
    exact go w2 hS
  rw [ok_cd]
  refine ⟨fun _ => ?_, fun _ => ?_⟩
  · simp only [ok_bd, ok_gd, true_and, and_true, and_self, not_false_eq_true, g1, g2, g3, g4, g5, b1, b2, b3, b4, hx]
    refine ok_call (p_town hN h) ?_
    rintro r w hM
    have s := sh_town hN hM
    simp only [ok_bd, ok_gd, true_and, and_true, and_self, not_false_eq_true, g1, g2, g3, g4, g5, b1, b2, b3, b4, s]
    refine ok_call hM ?_
    rintro r' w2 ⟨rfl, hS⟩
    refine ok_cdt rfl ?_
    rw [ok_bd]
    exact go w2 hS
  rw [ok_cd]
  refine ⟨fun _ => ?_, fun _ => ?_⟩
  · simp only [ok_bd, ok_gd, true_and, and_true, and_self, not_false_eq_true, g1, g2, g3, g4, g5, b1, b2, b3, b4, hx]
    refine ok_call (p_told hN h) ?_
    rintro r w hM
    have s := sh_told hN hM
    simp only [ok_bd, ok_gd, true_and, and_true, and_self, not_false_eq_true, g1, g2, g3, g4, g5, b1, b2, b3, b4, s]
    refine ok_call hM ?_
    rintro r' w2 ⟨rfl, hS⟩
    refine ok_cdt rfl ?_
    rw [ok_bd]
    exact go w2 hS
  rw [ok_cd]
  refine ⟨fun _ => ?_, fun _ => ?_⟩
  · simp only [ok_bd, ok_gd, true_and, and_true, and_self, not_false_eq_true, g1, g2, g3, g4, g5, b1, b2, b3, b4, hx]
    refine ok_call (p_pay hN h) ?_
    rintro r w hM
    have s := sh_pay hN hM
    simp only [ok_bd, ok_gd, true_and, and_true, and_self, not_false_eq_true, g1, g2, g3, g4, g5, b1, b2, b3, b4, s]
    refine ok_call hM ?_
    rintro r' w2 ⟨rfl, hS⟩
    refine ok_cdt rfl ?_
    rw [ok_bd]
    exact go w2 hS
  rw [ok_cd]
  refine ⟨fun _ => ?_, fun _ => ?_⟩
  · simp only [ok_bd, ok_gd, true_and, and_true, and_self, not_false_eq_true, g1, g2, g3, g4, g5, b1, b2, b3, b4, hx]
    refine ok_call (p_would hN h) ?_
    rintro r w hM
    have s := sh_would hN hM
    simp only [ok_bd, ok_gd, true_and, and_true, and_self, not_false_eq_true, g1, g2, g3, g4, g5, b1, b2, b3, b4, s]
    refine ok_call hM ?_
    rintro r' w2 ⟨rfl, hS⟩
    refine ok_cdt rfl ?_
    rw [ok_bd]
    exact go w2 hS
  rw [ok_cd]
  refine ⟨fun _ => ?_, fun _ => ?_⟩
  · simp only [ok_bd, ok_gd, true_and, and_true, and_self, not_false_eq_true, g1, g2, g3, g4, g5, b1, b2, b3, b4, hx]
    refine ok_call (p_least hN h) ?_
    rintro r w hM
    have s := sh_least hN hM
    simp only [ok_bd, ok_gd, true_and, and_true, and_self, not_false_eq_true, g1, g2, g3, g4, g5, b1, b2, b3, b4, s]
    refine ok_call hM ?_
    rintro r' w2 ⟨rfl, hS⟩
    refine ok_cdt rfl ?_
    rw [ok_bd]
    exact go w2 hS
  rw [ok_cd]
  refine ⟨fun _ => ?_, fun _ => ?_⟩
  · simp only [ok_bd, ok_gd, true_and, and_true, and_self, not_false_eq_true, g1, g2, g3, g4, g5, b1, b2, b3, b4, hx]
    refine ok_call (p_exactly hN h) ?_
    rintro r w hM
    have s := sh_exactly hN hM
    simp only [ok_bd, ok_gd, true_and, and_true, and_self, not_false_eq_true, g1, g2, g3, g4, g5, b1, b2, b3, b4, s]
    refine ok_call hM ?_
    rintro r' w2 ⟨rfl, hS⟩
    refine ok_cdt rfl ?_
    rw [ok_bd]
    exact go w2 hS
  rw [ok_cd]
  refine ⟨fun _ => ?_, fun _ => ?_⟩
  · simp only [ok_bd, ok_gd, true_and, and_true, and_self, not_false_eq_true, g1, g2, g3, g4, g5, b1, b2, b3, b4, hx]
    refine ok_call (p_price h) ?_
    rintro r w hM
    have s := sh_price hN hM
    simp only [ok_bd, ok_gd, true_and, and_true, and_self, not_false_eq_true, g1, g2, g3, g4, g5, b1, b2, b3, b4, s]
    refine ok_call hM ?_
    rintro r' w2 ⟨rfl, hS⟩
    refine ok_cdt rfl ?_
    rw [ok_bd]
    exact go w2 hS
  rw [ok_cd]
  refine ⟨fun _ => ?_, fun _ => ?_⟩
  · simp only [ok_bd, ok_gd, true_and, and_true, and_self, not_false_eq_true, g1, g2, g3, g4, g5, b1, b2, b3, b4, hx]
    refine ok_call (p_behind hN h) ?_
    rintro r w hM
    have s := sh_behind hN hM
    simp only [ok_bd, ok_gd, true_and, and_true, and_self, not_false_eq_true, g1, g2, g3, g4, g5, b1, b2, b3, b4, s]
    refine ok_call hM ?_
    rintro r' w2 ⟨rfl, hS⟩
    refine ok_cdt rfl ?_
    rw [ok_bd]
    exact go w2 hS
  rw [ok_cd]
  refine ⟨fun _ => ?_, fun _ => ?_⟩
  · simp only [ok_bd, ok_gd, true_and, and_true, and_self, not_false_eq_true, g1, g2, g3, g4, g5, b1, b2, b3, b4, hx]
    refine ok_call (p_who hN h) ?_
    rintro r w hM
    have s := sh_who hN hM
    simp only [ok_bd, ok_gd, true_and, and_true, and_self, not_false_eq_true, g1, g2, g3, g4, g5, b1, b2, b3, b4, s]
    refine ok_call hM ?_
    rintro r' w2 ⟨rfl, hS⟩
    refine ok_cdt rfl ?_
    rw [ok_bd]
    exact go w2 hS
  rw [ok_cd]
  refine ⟨fun _ => ?_, fun _ => ?_⟩
  · simp only [ok_bd, ok_gd, true_and, and_true, and_self, not_false_eq_true, g1, g2, g3, g4, g5, b1, b2, b3, b4, hx]
    refine ok_call (p_next hN h) ?_
    rintro r w hM
    have s := sh_next hN hM
    simp only [ok_bd, ok_gd, true_and, and_true, and_self, not_false_eq_true, g1, g2, g3, g4, g5, b1, b2, b3, b4, s]
    refine ok_call hM ?_
    rintro r' w2 ⟨rfl, hS⟩
    refine ok_cdt rfl ?_
    rw [ok_bd]
    exact go w2 hS
  rw [ok_cd]
  refine ⟨fun _ => ?_, fun _ => ?_⟩
  · simp only [ok_bd, ok_gd, true_and, and_true, and_self, not_false_eq_true, g1, g2, g3, g4, g5, b1, b2, b3, b4, hx]
    refine ok_call (p_shortOf hN h) ?_
    rintro r w hM
    have s := sh_shortOf hN hM
    simp only [ok_bd, ok_gd, true_and, and_true, and_self, not_false_eq_true, g1, g2, g3, g4, g5, b1, b2, b3, b4, s]
    refine ok_call hM ?_
    rintro r' w2 ⟨rfl, hS⟩
    refine ok_cdt rfl ?_
    rw [ok_bd]
    exact go w2 hS
  rw [ok_cd]
  refine ⟨fun _ => ?_, fun _ => ?_⟩
  · simp only [ok_bd, ok_gd, true_and, and_true, and_self, not_false_eq_true, g1, g2, g3, g4, g5, b1, b2, b3, b4, hx]
    refine ok_call (p_more hN h) ?_
    rintro r w hM
    have s := sh_more hN hM
    simp only [ok_bd, ok_gd, true_and, and_true, and_self, not_false_eq_true, g1, g2, g3, g4, g5, b1, b2, b3, b4, s]
    refine ok_call hM ?_
    rintro r' w2 ⟨rfl, hS⟩
    refine ok_cdt rfl ?_
    rw [ok_bd]
    exact go w2 hS
  rw [ok_cd]
  refine ⟨fun _ => ?_, fun _ => ?_⟩
  · simp only [ok_bd, ok_gd, true_and, and_true, and_self, not_false_eq_true, g1, g2, g3, g4, g5, b1, b2, b3, b4, hx]
    refine ok_call (p_heaviest hN h) ?_
    rintro r w hM
    have s := sh_heaviest hN hM
    simp only [ok_bd, ok_gd, true_and, and_true, and_self, not_false_eq_true, g1, g2, g3, g4, g5, b1, b2, b3, b4, s]
    refine ok_call hM ?_
    rintro r' w2 ⟨rfl, hS⟩
    refine ok_cdt rfl ?_
    rw [ok_bd]
    exact go w2 hS
  rw [ok_cd]
  refine ⟨fun _ => ?_, fun _ => ?_⟩
  · simp only [ok_bd, ok_gd, true_and, and_true, and_self, not_false_eq_true, g1, g2, g3, g4, g5, b1, b2, b3, b4, hx]
    refine ok_call (p_see h) ?_
    rintro r w hM
    have s := sh_see hN hM
    simp only [ok_bd, ok_gd, true_and, and_true, and_self, not_false_eq_true, g1, g2, g3, g4, g5, b1, b2, b3, b4, s]
    refine ok_call hM ?_
    rintro r' w2 ⟨rfl, hS⟩
    refine ok_cdt rfl ?_
    rw [ok_bd]
    exact go w2 hS
  rw [ok_cd]
  refine ⟨fun _ => ?_, fun _ => ?_⟩
  · simp only [ok_bd, ok_gd, true_and, and_true, and_self, not_false_eq_true, g1, g2, g3, g4, g5, b1, b2, b3, b4, hx]
    refine ok_call (p_fits hN h) ?_
    rintro r w hM
    have s := sh_fits hN hM
    simp only [ok_bd, ok_gd, true_and, and_true, and_self, not_false_eq_true, g1, g2, g3, g4, g5, b1, b2, b3, b4, s]
    refine ok_call hM ?_
    rintro r' w2 ⟨rfl, hS⟩
    refine ok_cdt rfl ?_
    rw [ok_bd]
    exact go w2 hS
  rw [ok_cd]
  refine ⟨fun _ => ?_, fun _ => ?_⟩
  · simp only [ok_bd, ok_gd, true_and, and_true, and_self, not_false_eq_true, g1, g2, g3, g4, g5, b1, b2, b3, b4, hx]
    refine ok_call (p_odds hN h) ?_
    rintro r w hM
    have s := sh_odds hN hM
    simp only [ok_bd, ok_gd, true_and, and_true, and_self, not_false_eq_true, g1, g2, g3, g4, g5, b1, b2, b3, b4, s]
    refine ok_call hM ?_
    rintro r' w2 ⟨rfl, hS⟩
    rw [ok_bd]
    refine ok_cdt (lg_eq.mpr rfl) ?_
    rw [ok_bd]
    exact go w2 hS
  rw [ok_cd]
  refine ⟨fun _ => ?_, fun _ => ?_⟩
  · simp only [ok_bd, ok_gd, true_and, and_true, and_self, not_false_eq_true, g1, g2, g3, g4, g5, b1, b2, b3, b4, hx]
    refine ok_call (p_mean hN h) ?_
    rintro r w hM
    have s := sh_mean hN hM
    simp only [ok_bd, ok_gd, true_and, and_true, and_self, not_false_eq_true, g1, g2, g3, g4, g5, b1, b2, b3, b4, s]
    refine ok_call hM ?_
    rintro r' w2 ⟨rfl, hS⟩
    rw [ok_bd]
    refine ok_cdt (lg_eq.mpr rfl) ?_
    rw [ok_bd]
    exact go w2 hS
  rw [ok_cd]
  refine ⟨fun _ => ?_, fun _ => ?_⟩
  · simp only [ok_bd, ok_gd, true_and, and_true, and_self, not_false_eq_true, g1, g2, g3, g4, g5, b1, b2, b3, b4, hx]
    refine ok_call (p_book h) ?_
    rintro r w hM
    have s := sh_book hN hM
    simp only [ok_bd, ok_gd, true_and, and_true, and_self, not_false_eq_true, g1, g2, g3, g4, g5, b1, b2, b3, b4, s]
    refine ok_call hM ?_
    rintro r' w2 ⟨rfl, hS⟩
    refine ok_cdt rfl ?_
    rw [ok_bd]
    exact go w2 hS
  rw [ok_cd]
  refine ⟨fun _ => ?_, fun _ => ?_⟩
  · simp only [ok_bd, ok_gd, true_and, and_true, and_self, not_false_eq_true, g1, g2, g3, g4, g5, b1, b2, b3, b4, hx]
    refine ok_call (p_looked hN h) ?_
    rintro r w hM
    have s := sh_looked hN hM
    simp only [ok_bd, ok_gd, true_and, and_true, and_self, not_false_eq_true, g1, g2, g3, g4, g5, b1, b2, b3, b4, s]
    refine ok_call hM ?_
    rintro r' w2 ⟨rfl, hS⟩
    refine ok_cdt rfl ?_
    rw [ok_bd]
    exact go w2 hS
  rw [ok_cd]
  refine ⟨fun _ => ?_, fun _ => ?_⟩
  · simp only [ok_bd, ok_gd, true_and, and_true, and_self, not_false_eq_true, g1, g2, g3, g4, g5, b1, b2, b3, b4, hx]
    refine ok_call (p_judge (by omega) h) ?_
    rintro r w hM
    have s := sh_judge hN hM
    simp only [ok_bd, ok_gd, true_and, and_true, and_self, not_false_eq_true, g1, g2, g3, g4, g5, b1, b2, b3, b4, s]
    refine ok_call hM ?_
    rintro r' w2 ⟨rfl, hS⟩
    refine ok_cdt rfl ?_
    rw [ok_bd]
    exact go w2 hS
  rw [ok_cd]
  refine ⟨fun _ => ?_, fun _ => ?_⟩
  · simp only [ok_bd, ok_gd, true_and, and_true, and_self, not_false_eq_true, g1, g2, g3, g4, g5, b1, b2, b3, b4, hx]
    refine ok_call (p_image hN h) ?_
    rintro r w hM
    have s := sh_image hN hM
    simp only [ok_bd, ok_gd, true_and, and_true, and_self, not_false_eq_true, g1, g2, g3, g4, g5, b1, b2, b3, b4, s]
    refine ok_call hM ?_
    rintro r' w2 ⟨rfl, hS⟩
    refine ok_cdt rfl ?_
    rw [ok_bd]
    exact go w2 hS
  rw [ok_cd]
  refine ⟨fun _ => ?_, fun _ => ?_⟩
  · simp only [ok_bd, ok_gd, true_and, and_true, and_self, not_false_eq_true, g1, g2, g3, g4, g5, b1, b2, b3, b4, hx]
    refine ok_call (p_undo hN h) ?_
    rintro r w hM
    have s := sh_undo hN hM
    simp only [ok_bd, ok_gd, true_and, and_true, and_self, not_false_eq_true, g1, g2, g3, g4, g5, b1, b2, b3, b4, s]
    refine ok_call hM ?_
    rintro r' w2 ⟨rfl, hS⟩
    refine ok_cdt rfl ?_
    rw [ok_bd]
    exact go w2 hS
  rw [ok_cd]
  refine ⟨fun _ => ?_, fun _ => ?_⟩
  · simp only [ok_bd, ok_gd, true_and, and_true, and_self, not_false_eq_true, g1, g2, g3, g4, g5, b1, b2, b3, b4, hx]
    refine ok_call (p_act hN h) ?_
    rintro r w hM
    have s := sh_act hN hM
    simp only [ok_bd, ok_gd, true_and, and_true, and_self, not_false_eq_true, g1, g2, g3, g4, g5, b1, b2, b3, b4, s]
    refine ok_call hM ?_
    rintro r' w2 ⟨rfl, hS⟩
    refine ok_cdt rfl ?_
    rw [ok_bd]
    exact go w2 hS
  rw [ok_cd]
  refine ⟨fun _ => ?_, fun _ => ?_⟩
  · simp only [ok_bd, ok_gd, true_and, and_true, and_self, not_false_eq_true, g1, g2, g3, g4, g5, b1, b2, b3, b4, hx]
    refine ok_call (p_trace h) ?_
    rintro r w hM
    have s := sh_trace hN hM
    simp only [ok_bd, ok_gd, true_and, and_true, and_self, not_false_eq_true, g1, g2, g3, g4, g5, b1, b2, b3, b4, s]
    refine ok_call hM ?_
    rintro r' w2 ⟨rfl, hS⟩
    refine ok_cdt rfl ?_
    rw [ok_bd]
    exact go w2 hS
  rw [ok_cd]
  refine ⟨fun _ => ?_, fun _ => ?_⟩
  · simp only [ok_bd, ok_gd, true_and, and_true, and_self, not_false_eq_true, g1, g2, g3, g4, g5, b1, b2, b3, b4, hx]
    refine ok_call (p_taken h) ?_
    rintro r w hM
    have s := sh_taken hN hM
    simp only [ok_bd, ok_gd, true_and, and_true, and_self, not_false_eq_true, g1, g2, g3, g4, g5, b1, b2, b3, b4, s]
    refine ok_call hM ?_
    rintro r' w2 ⟨rfl, hS⟩
    refine ok_cdt rfl ?_
    rw [ok_bd]
    exact go w2 hS
  rw [ok_cd]
  refine ⟨fun _ => ?_, fun _ => ?_⟩
  · simp only [ok_bd, ok_gd, true_and, and_true, and_self, not_false_eq_true, g1, g2, g3, g4, g5, b1, b2, b3, b4, hx]
    refine ok_call (p_count h) ?_
    rintro r w hM
    have s := sh_count hN hM
    simp only [ok_bd, ok_gd, true_and, and_true, and_self, not_false_eq_true, g1, g2, g3, g4, g5, b1, b2, b3, b4, s]
    refine ok_call hM ?_
    rintro r' w2 ⟨rfl, hS⟩
    refine ok_cdt rfl ?_
    rw [ok_bd]
    exact go w2 hS
  rw [ok_cd]
  refine ⟨fun _ => ?_, fun _ => ?_⟩
  · simp only [ok_bd, ok_gd, true_and, and_true, and_self, not_false_eq_true, g1, g2, g3, g4, g5, b1, b2, b3, b4, hx]
    refine ok_call (p_tape hN h) ?_
    rintro r w hM
    have s := sh_tape hN hM
    simp only [ok_bd, ok_gd, true_and, and_true, and_self, not_false_eq_true, g1, g2, g3, g4, g5, b1, b2, b3, b4, s]
    refine ok_call hM ?_
    rintro r' w2 ⟨rfl, hS⟩
    refine ok_cdt rfl ?_
    rw [ok_bd]
    exact go w2 hS
  rw [ok_cd]
  refine ⟨fun _ => ?_, fun _ => ?_⟩
  · simp only [ok_bd, ok_gd, true_and, and_true, and_self, not_false_eq_true, g1, g2, g3, g4, g5, b1, b2, b3, b4, hx]
    refine ok_call (p_item h) ?_
    rintro r w hM
    have s := sh_item hN hM
    simp only [ok_bd, ok_gd, true_and, and_true, and_self, not_false_eq_true, g1, g2, g3, g4, g5, b1, b2, b3, b4, s]
    refine ok_call hM ?_
    rintro r' w2 ⟨rfl, hS⟩
    refine ok_cdt rfl ?_
    rw [ok_bd]
    exact go w2 hS
  rw [ok_cd]
  refine ⟨fun _ => ?_, fun _ => ?_⟩
  · simp only [ok_bd, ok_gd, true_and, and_true, and_self, not_false_eq_true, g1, g2, g3, g4, g5, b1, b2, b3, b4, hx]
    refine ok_call (p_read h) ?_
    rintro r w hM
    have s := sh_read hN hM
    simp only [ok_bd, ok_gd, true_and, and_true, and_self, not_false_eq_true, g1, g2, g3, g4, g5, b1, b2, b3, b4, s]
    refine ok_call hM ?_
    rintro r' w2 ⟨rfl, hS⟩
    rw [ok_bd]
    refine ok_cdt (lg_eq.mpr rfl) ?_
    rw [ok_bd]
    exact go w2 hS
  rw [ok_cd]
  refine ⟨fun _ => ?_, fun _ => ?_⟩
  · simp only [ok_bd, ok_gd, true_and, and_true, and_self, not_false_eq_true, g1, g2, g3, g4, g5, b1, b2, b3, b4, hx]
    refine ok_call (p_shift hN h) ?_
    rintro r w hM
    have s := sh_shift hN hM
    simp only [ok_bd, ok_gd, true_and, and_true, and_self, not_false_eq_true, g1, g2, g3, g4, g5, b1, b2, b3, b4, s]
    refine ok_call hM ?_
    rintro r' w2 ⟨rfl, hS⟩
    refine ok_cdt rfl ?_
    rw [ok_bd]
    exact go w2 hS
  rw [ok_bd]
  exact go u h
end LAW
