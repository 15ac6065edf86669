/-! ===== an E in the model: the end, the whole ===== -/
theorem ti_p1 {a : Int32} {n : Nat} (h : a.toInt = (n : Int)) (g : n < 2147483647) : (a + 1).toInt = ((n + 1 : Nat) : Int) := by
  rw [ti_add1 (by omega), h]; omega
theorem ti_m1 {a : Int32} {n : Nat} (h : a.toInt = ((n + 1 : Nat) : Int)) : (a + (-1)).toInt = (n : Int) := by
  rw [ti_addm1 (by omega), h]; omega
theorem ti_s1 {a : Int32} {n : Nat} (h : a.toInt = ((n + 1 : Nat) : Int)) : (a - 1).toInt = (n : Int) := by
  rw [ti_sub1 (by omega), h]; omega
section ME
variable {N i n c s : Nat} {w u : gW} {a1 a2 a3 a4 a5 : Int32} {e : Int} {rec : Nat × Int32 × Int32 × Int32 × Int32 × Int32 × gW → Option (Int32 × gW)} {Q : Int32 → gW → Prop}
theorem mh_e (hL : Lay u) (h1 : a1.toInt = (c : Int)) (hc : c < 60) (he : (gI u 146 c).toInt = e) (h5 : a5.toInt = (i : Int)) (hie : e ≤ (i : Int)) (b : Bool) (hb : (gI u 150 0).toInt = bz b) (hQ : ∀ x : Int32, x.toInt = bz b → Q x u) : ok (f_M_holds_b11 N rec 133 a1 a2 a3 a4 a5 u) Q := by
  have hm := lay_M hL
  unfold f_M_holds_b11
  simp only [hm, ok_gd, ok_rr1, ok_bd, true_and]
  refine ⟨ix_of h1 hc, ?_⟩
  refine ok_cdt (by rw [ti_le, nat_of h1, he, h5]; exact hie) ?_
  simp only [hm, ok_gd, ok_rr1, ok_bd, true_and, nat_of (n := 0) ti_0, ok_ret]
  refine ⟨by rw [ti_lt]; decide, ?_, hQ _ hb⟩
  rw [ti_eq, ti_eq, hb, ti_0, ti_1]; exact bz_z b
end ME
set_option maxHeartbeats 1000000 in
theorem c_mholds {N a c s : Nat} {w : gW} {a1 a2 a3 : Int32} {zs : List Int} (hN : 1000 ≤ N) (hL : Lay w) (hwr : wrM w) (hpd : pdM w) (h1 : a1.toInt = (c : Int)) (hc : c < 60) (h2 : a2.toInt = (s : Int)) (hs : s < 6) (h3 : a3.toInt = -1 ∨ 0 ≤ a3.toInt ∧ a3.toInt < 4)
    (ha : (gI w 145 c).toInt = (a : Int)) (hb : (gI w 146 c).toInt = ((a + zs.length : Nat) : Int)) (hl : a + zs.length ≤ 600) (hr : rgn w 147 (fun z => z) a zs) (hw : wfs zs 0 1) :
    ok (f_M_holds N 133 a1 a2 a3 w) (fun r u => Fr [150] [] w u ∧ r.toInt = bz (hdb (evs (mft w s a3.toInt) zs []))) := by
  have hm := lay_M hL
  simp only [f_M_holds, f_M_holds_b0, ok_gd, ok_rr1, ok_bd, hm, true_and]
  refine ⟨ix_of h1 hc, ?_⟩
  rw [nat_of h1]
  unfold f_M_holds_l11
  generalize hQ : (fun (r : Int32) (u : gW) => Fr [150] [] w u ∧ r.toInt = bz (hdb (evs (mft w s a3.toInt) zs []))) = Q
  refine itr_li (β := Int) (fun R q => q.1 = 133 ∧ q.2.1 = a1 ∧ q.2.2.1 = a2 ∧ q.2.2.2.1 = a3 ∧ Fr [150] [] w q.2.2.2.2.2.2 ∧ ∃ (st : List Bool) (i : Nat), q.2.2.2.2.1.toInt = (st.length : Int) ∧ q.2.2.2.2.2.1.toInt = (i : Int) ∧ i + R.length = a + zs.length ∧ rgn w 147 (fun z => z) i R ∧ wfs R st.length 1 ∧ st.length ≤ 11 ∧ evs (mft w s a3.toInt) R st = evs (mft w s a3.toInt) zs [] ∧ pil q.2.2.2.2.2.2 st) ?_ ?_ zs N _ ?_ (by omega)
  · rintro rec z R ⟨q0, q1, q2, q3, a4, a5, u⟩ ⟨e0, e1, e2, e3, f, st, i, e4, e5, e6, e7, e8, e9, e10, e11⟩ IH
    simp only at e0 e1 e2 e3 f e4 e5 e11
    subst e0 e1 e2 e3
    simp only [List.length_cons] at e6
    obtain ⟨e7, e7'⟩ := e7
    have hLu := f.lay hL
    have k1 : (gI u 146 c).toInt = ((a + zs.length : Nat) : Int) := by rw [f.i ⟨by decide, by simp⟩]; exact hb
    have k2 : (gI u 147 i).toInt = z := by rw [f.i ⟨by decide, by simp⟩]; exact e7
    have hi9 : i < 2147483647 := by omega
    simp only [wfs] at e8
    rcases e8 with ⟨hv, hl', hw'⟩ | ⟨hz, hl', hw'⟩ | ⟨hz, hl', hw'⟩
    · refine mh_s (s := s) hLu h1 hc k1 e5 (by omega) (by omega) z k2 e4 (by omega) hv (hwr.c f ⟨by decide, by simp⟩) (hpd.c f ⟨by decide, by simp⟩) h2 hs h3 (fun x hx => ?_)
      rw [fct_in f] at hx
      have vv := vz_in hv
      have op : op1 (mft w s q3.toInt) z st = tst (mft w s q3.toInt) z :: st := by unfold op1; rw [if_pos (by omega)]
      have hl9 : st.length < 2147483647 := by omega
      refine IH _ ?_
      exact ⟨rfl, rfl, rfl, rfl, Fr_sI f (by simp), tst (mft w s q3.toInt) z :: st, i + 1, ti_p1 e4 hl9, ti_p1 e5 hi9, by omega, e7', hw', by simp only [List.length_cons]; omega, by rw [← e10]; simp only [evs, op], ⟨by rw [gI_eq]; exact hx, pil_set st (by omega) e11⟩⟩
    · obtain ⟨b, r, rfl⟩ : ∃ b r, st = b :: r := by
        cases st with
        | nil => simp at hl'
        | cons b r => exact ⟨b, r, rfl⟩
      obtain ⟨p1, p2⟩ := e11
      simp only [List.length_cons] at e4 e9 hw'
      refine mh_0 (n := r.length) hLu h1 hc k1 e5 (by omega) (by omega) (by rw [k2, hz]) e4 (by omega) (fun x hx => ?_)
      have hx' : x.toInt = bz (!b) := by rw [hx, p1]; cases b <;> rfl
      have op : op1 (mft w s q3.toInt) z (b :: r) = (!b) :: r := by rw [hz]; rfl
      refine IH _ ?_
      exact ⟨rfl, rfl, rfl, rfl, Fr_sI f (by simp), (!b) :: r, i + 1, by simp only [List.length_cons]; exact e4, ti_p1 e5 hi9, by omega, e7', by simpa using hw', by simpa using e9, by rw [← e10]; simp only [evs, op], ⟨by rw [gI_eq]; exact hx', pil_set r (by omega) p2⟩⟩
    · obtain ⟨b, b', r, rfl⟩ : ∃ b b2 r, st = b :: b2 :: r := by
        match st, hl' with
        | b :: b2 :: r, _ => exact ⟨b, b2, r, rfl⟩
      obtain ⟨p1, p2, p3⟩ := e11
      simp only [List.length_cons] at e4 e9 hw' p1
      refine mh_a (n := r.length) hLu h1 hc k1 e5 (by omega) (by omega) z k2 e4 (by omega) hz b b' p1 p2 (fun x hx => ?_)
      have op : op1 (mft w s q3.toInt) z (b :: b' :: r) = (if z = -38 then b' && b else b' || b) :: r := by rcases hz with rfl | rfl <;> rfl
      refine IH _ ?_
      exact ⟨rfl, rfl, rfl, rfl, Fr_sI f (by simp), (if z = -38 then b' && b else b' || b) :: r, i + 1, by simp only [List.length_cons]; exact ti_m1 e4, ti_p1 e5 hi9, by omega, e7', by simpa using hw', by simp only [List.length_cons]; omega, by rw [← e10]; simp only [evs, op], ⟨by rw [gI_eq]; exact hx, pil_set r (by omega) p3⟩⟩
  · rintro rec ⟨q0, q1, q2, q3, a4, a5, u⟩ ⟨e0, e1, e2, e3, f, st, i, e4, e5, e6, e7, e8, e9, e10, e11⟩
    simp only at e0 e1 e2 e3 f e4 e5 e11
    subst e0 e1 e2 e3
    simp only [List.length_nil] at e6
    have k1 : (gI u 146 c).toInt = ((a + zs.length : Nat) : Int) := by rw [f.i ⟨by decide, by simp⟩]; exact hb
    simp only [wfs] at e8
    obtain ⟨b, rfl⟩ : ∃ b, st = [b] := by
      match st, e8 with
      | [b], _ => exact ⟨b, rfl⟩
    simp only [evs] at e10
    obtain ⟨p1, -⟩ := e11
    refine mh_e (f.lay hL) h1 hc k1 e5 (by omega) b p1 (fun x hx => ?_)
    rw [← hQ]
    exact ⟨f, by rw [← e10]; exact hx⟩
  · exact ⟨rfl, rfl, rfl, rfl, Fr.rf, [], a, rfl, ha, rfl, hr, hw, by simp, rfl, trivial⟩
