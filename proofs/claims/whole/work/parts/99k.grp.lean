/-! ===== a town's text: E, T, F of the class =====  -/
def wF (d : Nat) (ops : List Int) : Prop := ∀ a, a + (9 - 2 * d) ≤ 11 → wfs ops a (a + 1)
def wT (d : Nat) (ops : List Int) : Prop := ∀ a, a + (10 - 2 * d) ≤ 11 → wfs ops a (a + 1)
def wE (d : Nat) (ops : List Int) : Prop := ∀ a, a + (11 - 2 * d) ≤ 11 → wfs ops a (a + 1)
def PgP (tp n : Nat) (w : gW) (k i : Nat) (G : Nat → List Int → Prop) (B : Nat → Prop) (r : Int32) (u : gW) : Prop := CF tp w u ∧ c8 tp u ∧ ∃ e : Nat, (gI u tp 12).toInt = (e : Int) ∧ e ≤ n ∧ ((r = 1 ∧ ∃ ops, 1 ≤ ops.length ∧ i + ops.length ≤ e ∧ CO tp w u k ops ∧ G e ops) ∨ (r = 0 ∧ B e))
abbrev PgF (t : Nat → Int) (tp n d : Nat) (w : gW) (k i : Nat) : Int32 → gW → Prop := PgP tp n w k i (fun e ops => SF t n d i true e ops ∧ wF d ops) (fun e => ∃ ops, SF t n d i false e ops)
abbrev PgT (t : Nat → Int) (tp n d : Nat) (w : gW) (k i : Nat) : Int32 → gW → Prop := PgP tp n w k i (fun e ops => STA t n d i e ops ∧ PK t n e ≠ 38 ∧ wT d ops) (fun e => STf t n d i e)
abbrev PgE (t : Nat → Int) (tp n d : Nat) (w : gW) (k i : Nat) : Int32 → gW → Prop := PgP tp n w k i (fun e ops => SEA t n d i e ops ∧ (PK t n e ≠ 38 ∧ PK t n e ≠ 124) ∧ wE d ops) (fun e => SEf t n d i e)
/-- where one begins to read -/
def PgB (t : Nat → Int) (tp n d : Nat) (w : gW) (k i : Nat) (a1 : Int32) : Prop := CT w tp t n ∧ (gI w tp 12).toInt = (i : Int) ∧ i ≤ n ∧ (gI w tp 8).toInt = (k : Int) ∧ k ≤ i ∧ a1.toInt = (d : Int) ∧ d ≤ 4
section GRP
variable {N tp n d k i e : Nat} {w u z : gW} {t : Nat → Int} {a1 : Int32} {ops ops' : List Int} {y : Int} {x : Int32}
theorem wfs_1 {a b : Nat} (h : (vz y ∧ a < 11 ∧ a + 1 = b) ∨ (y = -33 ∧ 1 ≤ a ∧ a = b) ∨ ((y = -38 ∨ y = -124) ∧ 2 ≤ a ∧ a - 1 = b)) : wfs [y] a b := by
  simp only [wfs]; exact h
theorem wF_not (h : wF (d + 1) ops) (hd : d < 4) : wF d (ops ++ [-33]) := fun a ha => wfs_app _ _ _ _ _ (h a (by omega)) (wfs_1 (Or.inr (Or.inl ⟨rfl, by omega, rfl⟩)))
theorem wF_par (h : wE (d + 1) ops) (hd : d < 4) : wF d ops := fun a ha => h a (by omega)
theorem wF_T (h : wF d ops) (hd : d ≤ 4) : wT d ops := fun a ha => h a (by omega)
theorem wT_E (h : wT d ops) (hd : d ≤ 4) : wE d ops := fun a ha => h a (by omega)
theorem wT_1 (h : wT d ops) (g : wF d ops') (hd : d ≤ 4) : wT d (ops ++ ops' ++ [-38]) := fun a ha => wfs_app _ _ _ _ _ (wfs_app _ _ _ _ _ (h a ha) (g (a + 1) (by omega))) (wfs_1 (Or.inr (Or.inr ⟨Or.inl rfl, by omega, by omega⟩)))
theorem wE_1 (h : wE d ops) (g : wT d ops') (hd : d ≤ 4) : wE d (ops ++ ops' ++ [-124]) := fun a ha => wfs_app _ _ _ _ _ (wfs_app _ _ _ _ _ (h a ha) (g (a + 1) (by omega))) (wfs_1 (Or.inr (Or.inr ⟨Or.inr rfl, by omega, by omega⟩)))
theorem tsA_vz {P : Nat → Int} {q : Nat} (h : tsA P i true q y) : vz y := by
  rcases h with ⟨-, h, -⟩ | ⟨h1, ⟨-, h, -⟩ | ⟨h2, h3, v, h4, ⟨-, h⟩ | ⟨h5, -, h6⟩⟩⟩
  · cases h
  · cases h
  · cases h
  have hp := plA_in (x := P i)
  have hv := nmA_in h4
  exact ⟨(plA (P i)).toNat, (P (i + 1) - 60).toNat, v.toNat, by omega, by omega, by omega, by omega⟩
theorem wF_test {P : Nat → Int} {q : Nat} (h : tsA P i true q y) (hd : d ≤ 4) : wF d [y] := fun a ha => wfs_1 (Or.inl ⟨tsA_vz h, by omega, rfl⟩)
theorem CO.av (h : CO tp w u k ops) (f : Fr [] [(tp, 12)] u z) : CO tp w z k ops := by
  obtain ⟨h1, h2, h3⟩ := h
  have e : ∀ j, gI z (tp + 6) j = gI u (tp + 6) j := fun j => f.i ⟨by simp, by simp⟩
  exact ⟨by rw [f.c ⟨by simp, by simp⟩]; exact h1, fun j hj => by rw [e]; exact h2 j hj, rgn_c ops k (fun j _ _ => e j) h3⟩
theorem CO.va (h : CO tp u z k ops) (f : Fr [] [(tp, 12)] w u) : CO tp w z k ops := by
  obtain ⟨h1, h2, h3⟩ := h
  exact ⟨h1, fun j hj => by rw [h2 j hj]; exact f.i ⟨by simp, by simp⟩, h3⟩
theorem CO.app (h : CO tp w u k ops) (g : CO tp u z (k + ops.length) ops') : CO tp w z k (ops ++ ops') := by
  obtain ⟨h1, h2, h3⟩ := h
  obtain ⟨g1, g2, g3⟩ := g
  refine ⟨by rw [g1, List.length_append, Nat.add_assoc], fun j hj => by rw [g2 j (by omega)]; exact h2 j hj, rgn_app ops ops' k (rgn_c ops k (fun j h1 h2 => g2 j (by omega)) h3) g3⟩
/-- a byte further on keeps where one begins -/
theorem PgB.go (h : PgB t tp n d w k i a1) (f : CF tp w u) {e k' : Nat} (hp : (gI u tp 12).toInt = (e : Int)) (he : e ≤ n) (h8 : (gI u tp 8).toInt = (k' : Int)) (hk : k' ≤ e) {x : Int32} {d' : Nat} (hx : x.toInt = (d' : Int)) (hd : d' ≤ 4) : PgB t tp n d' u k' e x := ⟨h.1.cf f, hp, he, h8, hk, hx, hd⟩
theorem c_emitO (hL : Lay u) (hT : isT tp) (hc : CO tp w u k ops) (hk : k + ops.length < 100) (hx : x.toInt = cdz y) : ok (f_Tn_emit N tp x u) (fun _ z => CF tp u z ∧ gI z tp 12 = gI u tp 12 ∧ c8 tp z ∧ CO tp w z k (ops ++ [y])) := by
  refine (c_emit hL hT (by rw [hc.1]; omega)).mono ?_
  rintro - z ⟨f, h12, h8, he⟩
  obtain ⟨e1, e2, e3⟩ := he _ hc.1 hk
  refine ⟨f, h12, h8, by rw [e1]; simp [Nat.add_assoc], fun j hj => by rw [e3 j (by omega)]; exact hc.2.1 j hj, rgn_end (a := k) ops k (rgn_c ops k (fun j h1 h2 => e3 j (by omega)) hc.2.2) (by rw [e2]; exact hx)⟩
set_option maxHeartbeats 1000000 in
theorem c_both {rcg : Nat × Nat × Int32 × gW → Option (Int32 × gW)} (hN : 1000 ≤ N) (hr : ∀ (w : gW) (k i : Nat), PgB t tp n d w k i a1 → ok (rcg (2, tp, a1, w)) (PgF t tp n d w k i)) (h : PgB t tp n d w k i a1) : ok (f_Tn_both_b0 N rcg tp a1 w) (PgT t tp n d w k i) := by
  have h0 := h
  obtain ⟨hct, hp, hi, h8, hk, h1, hd⟩ := h
  have t0 := (lay_T hct.1 hct.2.1).1
  have hn := hct.2.2.2.2.1
  have hT := hct.2.1
  have e100 : (100 : Int32).toInt = 100 := rfl
  unfold f_Tn_both_b0
  simp only [ok_gd, true_and, t0]
  refine ok_call (hr w k i h0) ?_
  rintro r1 u1 ⟨f1, c1, e1, p1, n1, hr1⟩
  unfold f_Tn_both_l8
  refine itr_up (fun j q => q.1 = tp ∧ q.2.1 = a1 ∧ q.2.2.2.1.toInt = (j : Int) ∧ CF tp w q.2.2.2.2 ∧ c8 tp q.2.2.2.2 ∧ ∃ e : Nat, (gI q.2.2.2.2 tp 12).toInt = (e : Int) ∧ e ≤ n ∧ ((q.2.2.1 = 1 ∧ ∃ ops, j + 1 ≤ ops.length ∧ i + ops.length ≤ e ∧ CO tp w q.2.2.2.2 k ops ∧ STA t n d i e ops ∧ True ∧ wT d ops) ∨ (q.2.2.1 = 0 ∧ STf t n d i e))) 100 ?_ ?_ N 0 _ (by omega) ?_ (by omega)
  · rintro rec j ⟨b0, b1, a2, a3, u⟩ hj ⟨q0, q1, q3, f, c8u, e, pe, ne, hq⟩ IH
    simp only at q0 q1 q3 f c8u pe hq
    subst q0 q1
    have hctu := hct.cf f
    have tu := (lay_T hctu.1 hctu.2.1).1
    show ok (f_Tn_both_b8 N rcg rec b0 b1 a2 a3 u) _
    unfold f_Tn_both_b8
    refine ok_cdf (by rw [ti_le, q3, e100]; omega) ?_
    rcases hq with ⟨rfl, ops, l1, l2, co, sta, pre, wt⟩ | ⟨rfl, stf⟩
    · refine ok_cdf (by decide) ?_
      simp only [ok_gd, true_and, tu]
      refine ok_call (c_ahead hctu pe ne) ?_
      rintro r2 u2 ⟨rfl, hr2⟩
      have ech : (38 : Int32).toInt = 38 := rfl
      rw [ok_cd]
      refine ⟨fun ec => ?_, fun ec => ?_⟩ <;> rw [ti_eq, hr2, ech] at ec
      · have hin := hctu.lt (i := e) (by omega)
        have hav := AV_of pe (show e < 1000 by omega)
        have hct3 := hctu.cf hav.cf
        have t3 := (lay_T hct3.1 hct3.2.1).1
        have co3 := co.av hav.1
        have f3 : CF b0 w (sI u2 b0 12 (gI u2 b0 12 + 1)) := f.tr hav.cf
        simp only [ok_gd, ok_bd, true_and, tu, t3]
        refine ok_call (hr _ (k + ops.length) (e + 1) (h0.go f3 hav.2 (by omega) co3.1 (by omega) h1 hd)) ?_
        rintro r4 u4 ⟨f4, c4, e4, p4, n4, hr4⟩
        have hct4 := hct3.cf f4
        have t4 := (lay_T hct4.1 hct4.2.1).1
        have f34 := f3.tr f4
        have ti3 : (a3 + 1).toInt = ((j + 1 : Nat) : Int) := ti_p1 q3 (by omega)
        simp only [ok_gd, true_and, t4]
        rcases hr4 with ⟨rfl, ops', l1', l2', co4, g4⟩ | ⟨rfl, g4⟩
        · have co34 := co3.app co4
          have ll : (ops ++ ops').length = ops.length + ops'.length := List.length_append
          refine ok_call (c_emitO (y := -38) hct4.1 hct4.2.1 co34 (by omega) rfl) ?_
          rintro - u5 ⟨f5, h12, c5, co5⟩
          rw [ok_bd]
          refine IH _ ⟨rfl, rfl, ti3, f34.tr f5, c5, e4, by rw [h12]; exact p4, n4, Or.inl ⟨rfl, _, ?_, ?_, co5, ST_1 sta ec g4.1, trivial, wT_1 wt g4.2 hd⟩⟩
          · simp only [List.length_append, List.length_cons, List.length_nil]; omega
          · simp only [List.length_append, List.length_cons, List.length_nil]; omega
        · refine ok_call (c_emit hct4.1 hct4.2.1 c4) ?_
          rintro - u5 ⟨f5, h12, c5, -⟩
          rw [ok_bd]
          exact IH _ ⟨rfl, rfl, ti3, f34.tr f5, c5, e4, by rw [h12]; exact p4, n4, Or.inr ⟨rfl, (by obtain ⟨o, g⟩ := g4; exact ST_1f sta ec g)⟩⟩
      · refine ok_gdt (by simp) (ok_ret.mpr ⟨f, c8u, e, pe, ne, Or.inl ⟨rfl, ops, by omega, l2, co, sta, ec, wt⟩⟩)
    · exact ok_cdt rfl (ok_gdt (by simp) (ok_ret.mpr ⟨f, c8u, e, pe, ne, Or.inr ⟨rfl, stf⟩⟩))
  · rintro rec ⟨b0, b1, a2, a3, u⟩ ⟨q0, q1, q3, f, c8u, e, pe, ne, hq⟩
    simp only at q0 q1 q3 f c8u pe hq
    subst q0 q1
    show ok (f_Tn_both_b8 N rcg rec b0 b1 a2 a3 u) _
    unfold f_Tn_both_b8
    rcases hq with ⟨rfl, ops, l1, l2, co, -⟩ | ⟨rfl, stf⟩
    · omega
    · exact ok_cdt (by rw [ti_le, q3, e100]; decide) (ok_gdt (by simp) (ok_ret.mpr ⟨f, c8u, e, pe, ne, Or.inr ⟨rfl, stf⟩⟩))
  · refine ⟨rfl, rfl, rfl, f1, c1, e1, p1, n1, ?_⟩
    rcases hr1 with ⟨rfl, ops, l1, l2, co, g⟩ | ⟨rfl, g⟩
    · exact Or.inl ⟨rfl, ops, by omega, l2, co, ST_0 g.1, trivial, wF_T g.2 hd⟩
    · exact Or.inr ⟨rfl, (by obtain ⟨o, g⟩ := g; exact ST_0f g)⟩
set_option maxHeartbeats 1000000 in
theorem c_either {rcg : Nat × Nat × Int32 × gW → Option (Int32 × gW)} (hN : 1000 ≤ N) (hr : ∀ (w : gW) (k i : Nat), PgB t tp n d w k i a1 → ok (rcg (1, tp, a1, w)) (PgT t tp n d w k i)) (h : PgB t tp n d w k i a1) : ok (f_Tn_either_b0 N rcg tp a1 w) (PgE t tp n d w k i) := by
  have h0 := h
  obtain ⟨hct, hp, hi, h8, hk, h1, hd⟩ := h
  have t0 := (lay_T hct.1 hct.2.1).1
  have hn := hct.2.2.2.2.1
  have hT := hct.2.1
  have e100 : (100 : Int32).toInt = 100 := rfl
  unfold f_Tn_either_b0
  simp only [ok_gd, true_and, t0]
  refine ok_call (hr w k i h0) ?_
  rintro r1 u1 ⟨f1, c1, e1, p1, n1, hr1⟩
  unfold f_Tn_either_l8
  refine itr_up (fun j q => q.1 = tp ∧ q.2.1 = a1 ∧ q.2.2.2.1.toInt = (j : Int) ∧ CF tp w q.2.2.2.2 ∧ c8 tp q.2.2.2.2 ∧ ∃ e : Nat, (gI q.2.2.2.2 tp 12).toInt = (e : Int) ∧ e ≤ n ∧ ((q.2.2.1 = 1 ∧ ∃ ops, j + 1 ≤ ops.length ∧ i + ops.length ≤ e ∧ CO tp w q.2.2.2.2 k ops ∧ SEA t n d i e ops ∧ PK t n e ≠ 38 ∧ wE d ops) ∨ (q.2.2.1 = 0 ∧ SEf t n d i e))) 100 ?_ ?_ N 0 _ (by omega) ?_ (by omega)
  · rintro rec j ⟨b0, b1, a2, a3, u⟩ hj ⟨q0, q1, q3, f, c8u, e, pe, ne, hq⟩ IH
    simp only at q0 q1 q3 f c8u pe hq
    subst q0 q1
    have hctu := hct.cf f
    have tu := (lay_T hctu.1 hctu.2.1).1
    show ok (f_Tn_either_b8 N rcg rec b0 b1 a2 a3 u) _
    unfold f_Tn_either_b8
    refine ok_cdf (by rw [ti_le, q3, e100]; omega) ?_
    rcases hq with ⟨rfl, ops, l1, l2, co, sta, pre, wt⟩ | ⟨rfl, stf⟩
    · refine ok_cdf (by decide) ?_
      simp only [ok_gd, true_and, tu]
      refine ok_call (c_ahead hctu pe ne) ?_
      rintro r2 u2 ⟨rfl, hr2⟩
      have ech : (124 : Int32).toInt = 124 := rfl
      rw [ok_cd]
      refine ⟨fun ec => ?_, fun ec => ?_⟩ <;> rw [ti_eq, hr2, ech] at ec
      · have hin := hctu.lt (i := e) (by omega)
        have hav := AV_of pe (show e < 1000 by omega)
        have hct3 := hctu.cf hav.cf
        have t3 := (lay_T hct3.1 hct3.2.1).1
        have co3 := co.av hav.1
        have f3 : CF b0 w (sI u2 b0 12 (gI u2 b0 12 + 1)) := f.tr hav.cf
        simp only [ok_gd, ok_bd, true_and, tu, t3]
        refine ok_call (hr _ (k + ops.length) (e + 1) (h0.go f3 hav.2 (by omega) co3.1 (by omega) h1 hd)) ?_
        rintro r4 u4 ⟨f4, c4, e4, p4, n4, hr4⟩
        have hct4 := hct3.cf f4
        have t4 := (lay_T hct4.1 hct4.2.1).1
        have f34 := f3.tr f4
        have ti3 : (a3 + 1).toInt = ((j + 1 : Nat) : Int) := ti_p1 q3 (by omega)
        simp only [ok_gd, true_and, t4]
        rcases hr4 with ⟨rfl, ops', l1', l2', co4, g4⟩ | ⟨rfl, g4⟩
        · have co34 := co3.app co4
          have ll : (ops ++ ops').length = ops.length + ops'.length := List.length_append
          refine ok_call (c_emitO (y := -124) hct4.1 hct4.2.1 co34 (by omega) rfl) ?_
          rintro - u5 ⟨f5, h12, c5, co5⟩
          rw [ok_bd]
          refine IH _ ⟨rfl, rfl, ti3, f34.tr f5, c5, e4, by rw [h12]; exact p4, n4, Or.inl ⟨rfl, _, ?_, ?_, co5, SE_1 sta ec g4.1, g4.2.1, wE_1 wt g4.2.2 hd⟩⟩
          · simp only [List.length_append, List.length_cons, List.length_nil]; omega
          · simp only [List.length_append, List.length_cons, List.length_nil]; omega
        · refine ok_call (c_emit hct4.1 hct4.2.1 c4) ?_
          rintro - u5 ⟨f5, h12, c5, -⟩
          rw [ok_bd]
          exact IH _ ⟨rfl, rfl, ti3, f34.tr f5, c5, e4, by rw [h12]; exact p4, n4, Or.inr ⟨rfl, SE_1f sta ec g4⟩⟩
      · refine ok_gdt (by simp) (ok_ret.mpr ⟨f, c8u, e, pe, ne, Or.inl ⟨rfl, ops, by omega, l2, co, sta, ⟨pre, ec⟩, wt⟩⟩)
    · exact ok_cdt rfl (ok_gdt (by simp) (ok_ret.mpr ⟨f, c8u, e, pe, ne, Or.inr ⟨rfl, stf⟩⟩))
  · rintro rec ⟨b0, b1, a2, a3, u⟩ ⟨q0, q1, q3, f, c8u, e, pe, ne, hq⟩
    simp only at q0 q1 q3 f c8u pe hq
    subst q0 q1
    show ok (f_Tn_either_b8 N rcg rec b0 b1 a2 a3 u) _
    unfold f_Tn_either_b8
    rcases hq with ⟨rfl, ops, l1, l2, co, -⟩ | ⟨rfl, stf⟩
    · omega
    · exact ok_cdt (by rw [ti_le, q3, e100]; decide) (ok_gdt (by simp) (ok_ret.mpr ⟨f, c8u, e, pe, ne, Or.inr ⟨rfl, stf⟩⟩))
  · refine ⟨rfl, rfl, rfl, f1, c1, e1, p1, n1, ?_⟩
    rcases hr1 with ⟨rfl, ops, l1, l2, co, g⟩ | ⟨rfl, g⟩
    · exact Or.inl ⟨rfl, ops, by omega, l2, co, SE_0 g.1, g.2.1, wT_E g.2.2 hd⟩
    · exact Or.inr ⟨rfl, SE_0f g⟩
set_option maxHeartbeats 1000000 in
theorem c_single {rcg : Nat × Nat × Int32 × gW → Option (Int32 × gW)} (hN : 1000 ≤ N) (hr2 : d < 4 → ∀ (w : gW) (k i : Nat) (x : Int32), PgB t tp n (d + 1) w k i x → ok (rcg (2, tp, x, w)) (PgF t tp n (d + 1) w k i)) (hr0 : d < 4 → ∀ (w : gW) (k i : Nat) (x : Int32), PgB t tp n (d + 1) w k i x → ok (rcg (0, tp, x, w)) (PgE t tp n (d + 1) w k i)) (h : PgB t tp n d w k i a1) : ok (f_Tn_single_b0 N rcg tp a1 w) (PgF t tp n d w k i) := by
  have h0 := h
  obtain ⟨hct, hp, hi, h8, hk, h1, hd⟩ := h
  have t0 := (lay_T hct.1 hct.2.1).1
  have hn := hct.2.2.2.2.1
  have hT := hct.2.1
  have hc8 : c8 tp w := by unfold c8; omega
  have t4 : (4 : Int32).toInt = 4 := rfl
  unfold f_Tn_single_b0
  simp only [ok_gd, true_and, t0]
  refine ok_call (c_ahead hct hp hi) ?_
  rintro r u ⟨rfl, hr⟩
  have b22 : (PK t n i = 33 ∨ PK t n i = 40) → ok (f_Tn_single_b22 N rcg tp a1 r u) (PgF t tp n d u k i) := by
    intro hc
    unfold f_Tn_single_b22
    rw [ok_cd]
    refine ⟨fun e => ?_, fun e => ?_⟩ <;> rw [ti_lt, h1, t4] at e
    · have hd4 : d < 4 := by omega
      have hin := hct.lt (i := i) (by omega)
      have hav := AV_of hp (show i < 1000 by omega)
      have hct3 := hct.cf hav.cf
      have t3 := (lay_T hct3.1 hct3.2.1).1
      have h83 : (gI (sI u tp 12 (gI u tp 12 + 1)) tp 8).toInt = (k : Int) := by rw [gI_nk (by decide)]; exact h8
      have hx1 : (a1 + 1).toInt = ((d + 1 : Nat) : Int) := ti_p1 h1 (by omega)
      have hgb : PgB t tp n (d + 1) (sI u tp 12 (gI u tp 12 + 1)) k (i + 1) (a1 + 1) := h0.go hav.cf hav.2 (by omega) h83 (by omega) hx1 (by omega)
      simp only [ok_gd, ok_bd, true_and, t0]
      rw [ok_cd]
      refine ⟨fun e4 => ?_, fun e4 => ?_⟩ <;> rw [ti_eq, hr, t40a] at e4
      · simp only [ok_gd, ok_bd, true_and, t3]
        refine ok_call (hr0 hd4 _ _ _ _ hgb) ?_
        rintro r4 u4 ⟨f4, c4, e4', p4, n4, hr4⟩
        have hct4 := hct3.cf f4
        have tu4 := (lay_T hct4.1 hct4.2.1).1
        have f34 := hav.cf.tr f4
        rcases hr4 with ⟨rfl, ops, l1, l2, co, g1, g2, g3⟩ | ⟨rfl, g⟩
        · refine ok_cdf (by decide) ?_
          simp only [ok_gd, true_and, tu4]
          refine ok_call (c_takes (a1 := 41) hct4 p4 n4 (by decide)) ?_
          have t41 : (41 : Int32).toInt = 41 := rfl
          rintro r5 u5 (⟨rfl, hpk, hin5, hav5⟩ | ⟨rfl, hpk, rfl⟩) <;> rw [t41] at hpk
          · exact ok_cdf (by decide) (ok_ret.mpr ⟨f34.tr hav5.cf, by unfold c8; rw [hav5.1.c ⟨by simp, by simp⟩]; exact c4, e4' + 1, hav5.2, by omega, Or.inl ⟨rfl, ops, l1, by omega, (co.va hav.1).av hav5.1, SF_par e4 hd4 g1 hpk, wF_par g3 hd4⟩⟩)
          · exact ok_cdt rfl (ok_ret.mpr ⟨f34, c4, e4', p4, n4, Or.inr ⟨rfl, [], SF_parX e4 hd4 g1 ⟨hpk, g2.1, g2.2⟩⟩⟩)
        · exact ok_cdt rfl (ok_ret.mpr ⟨f34, c4, e4', p4, n4, Or.inr ⟨rfl, [], SF_parE e4 hd4 g⟩⟩)
      · have hc33 : PK t n i = 33 := by omega
        simp only [ok_gd, ok_bd, true_and, t3]
        refine ok_call (hr2 hd4 _ _ _ _ hgb) ?_
        rintro r4 u4 ⟨f4, c4, e4', p4, n4, hr4⟩
        have hct4 := hct3.cf f4
        have tu4 := (lay_T hct4.1 hct4.2.1).1
        have f34 := hav.cf.tr f4
        simp only [ok_gd, true_and, tu4]
        rcases hr4 with ⟨rfl, ops, l1, l2, co, g1, g2⟩ | ⟨rfl, ops, g⟩
        · refine ok_call (c_emitO (y := -33) hct4.1 hct4.2.1 (co.va hav.1) (by omega) rfl) ?_
          rintro - u5 ⟨f5, h12, c5, co5⟩
          refine ok_gdt (by simp) (ok_ret.mpr ⟨f34.tr f5, c5, e4', by rw [h12]; exact p4, n4, Or.inl ⟨rfl, ops ++ [-33], ?_, ?_, co5, SF_not hc33 hd4 g1, wF_not g2 hd4⟩⟩)
          · simp only [List.length_append, List.length_cons, List.length_nil]; omega
          · simp only [List.length_append, List.length_cons, List.length_nil]; omega
        · refine ok_call (c_emit hct4.1 hct4.2.1 c4) ?_
          rintro - u5 ⟨f5, h12, c5, -⟩
          exact ok_gdt (by simp) (ok_ret.mpr ⟨f34.tr f5, c5, e4', by rw [h12]; exact p4, n4, Or.inr ⟨rfl, _, SF_not hc33 hd4 g⟩⟩)
    · exact ok_ret.mpr ⟨Fr.rf, hc8, i, hp, hi, Or.inr ⟨rfl, [], SF_deep hc (by omega)⟩⟩
  rw [ok_cd]
  refine ⟨fun e => ?_, fun e => ?_⟩ <;> rw [ti_eq, hr, t33a] at e
  · exact b22 (Or.inl e)
  rw [ok_cd]
  refine ⟨fun e4 => ?_, fun e4 => ?_⟩ <;> rw [ti_eq, hr, t40a] at e4
  · exact b22 (Or.inr e4)
  simp only [ok_gd, true_and, t0]
  refine ok_call (c_test hN hct hp hi h8 hk) ?_
  rintro r5 u5 ⟨f5, c5, b, e5, y, hts, p5, n5, hb⟩
  rcases hb with ⟨rfl, rfl, l3, co⟩ | ⟨rfl, rfl⟩
  · exact ok_gdt (by simp) (ok_ret.mpr ⟨f5, c5, e5, p5, n5, Or.inl ⟨rfl, [y], by simp, by simp; omega, co, SF_test hts ⟨e, e4⟩, wF_test hts hd⟩⟩)
  · exact ok_gdt (by simp) (ok_ret.mpr ⟨f5, c5, e5, p5, n5, Or.inr ⟨rfl, [y], SF_test hts ⟨e, e4⟩⟩⟩)
theorem grp_s {g : Nat} {q : Nat × Nat × Int32 × gW} : f_grp N (g + 1) q = f_grpS N (f_grp N g) q := by
  unfold f_grp; exact itr_s _ _ _
theorem grp_2 {rec : Nat × Nat × Int32 × gW → Option (Int32 × gW)} : f_grpS N rec (2, tp, a1, w) = f_Tn_single_b0 N rec tp a1 w := by
  unfold f_grpS
  show cd ((2 : Nat) = 0) _ (cd ((2 : Nat) = 1) _ (cd ((2 : Nat) = 2) (f_Tn_single_b0 N rec tp a1 w) none)) = _
  unfold cd
  rw [if_neg (by decide), if_neg (by decide), if_pos rfl]
theorem grp_1 {rec : Nat × Nat × Int32 × gW → Option (Int32 × gW)} : f_grpS N rec (1, tp, a1, w) = f_Tn_both_b0 N rec tp a1 w := by
  unfold f_grpS
  show cd ((1 : Nat) = 0) _ (cd ((1 : Nat) = 1) (f_Tn_both_b0 N rec tp a1 w) _) = _
  unfold cd
  rw [if_neg (by decide), if_pos rfl]
theorem grp_0 {rec : Nat × Nat × Int32 × gW → Option (Int32 × gW)} : f_grpS N rec (0, tp, a1, w) = f_Tn_either_b0 N rec tp a1 w := by
  unfold f_grpS
  show cd ((0 : Nat) = 0) (f_Tn_either_b0 N rec tp a1 w) _ = _
  unfold cd
  rw [if_pos rfl]
theorem p_grp (hN : 1000 ≤ N) : ∀ g : Nat, (∀ (d : Nat) (w : gW) (k i : Nat) (a1 : Int32), 3 * (4 - d) + 1 ≤ g → PgB t tp n d w k i a1 → ok (f_grp N g (2, tp, a1, w)) (PgF t tp n d w k i)) ∧ (∀ (d : Nat) (w : gW) (k i : Nat) (a1 : Int32), 3 * (4 - d) + 2 ≤ g → PgB t tp n d w k i a1 → ok (f_grp N g (1, tp, a1, w)) (PgT t tp n d w k i)) ∧ (∀ (d : Nat) (w : gW) (k i : Nat) (a1 : Int32), 3 * (4 - d) + 3 ≤ g → PgB t tp n d w k i a1 → ok (f_grp N g (0, tp, a1, w)) (PgE t tp n d w k i)) := by
  intro g
  induction g with
  | zero => exact ⟨fun d w k i a1 h => by omega, fun d w k i a1 h => by omega, fun d w k i a1 h => by omega⟩
  | succ g ih =>
    obtain ⟨i2, i1, i0⟩ := ih
    refine ⟨fun d w k i a1 hg h => ?_, fun d w k i a1 hg h => ?_, fun d w k i a1 hg h => ?_⟩
    · rw [grp_s, grp_2]
      exact c_single hN (fun hd w k i x hb => i2 (d + 1) w k i x (by omega) hb) (fun hd w k i x hb => i0 (d + 1) w k i x (by omega) hb) h
    · rw [grp_s, grp_1]
      exact c_both hN (fun w k i hb => i2 d w k i a1 (by omega) hb) h
    · rw [grp_s, grp_0]
      exact c_either hN (fun w k i hb => i1 d w k i a1 (by omega) hb) h
end GRP
