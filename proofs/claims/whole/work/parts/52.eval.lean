/-! ===== what a town's text says: the ops of an E, a pile of answers ===== -/
theorem ti_add1 {a : Int32} (h : a.toInt < 2147483647) : (a + 1).toInt = a.toInt + 1 := by
  have := (J_in a).1
  rw [ti_add] <;> rw [ti_1] ; omega
theorem nI_ti {x : Int32} {n : Nat} (h : x.toInt = (n : Int)) : x = nI n := by
  have := J_in x
  exact ti_eq.mpr (by rw [h, nI_toInt (by omega)])
def bz (b : Bool) : Int := if b then 1 else 0
theorem bz_1 {b : Bool} {z : Int} (g : z = bz b) (h : b = true) : z = 1 := by rw [g, h]; rfl
theorem bz_0 {b : Bool} {z : Int} (g : z = bz b) (h : ¬ b = true) : z = 0 := by rw [g]; unfold bz; rw [if_neg h]
def cdz (z : Int) : Int := if z = -33 then 2 else if z = -38 then 1 else if z = -124 then 0 else 3 + z / 1000 * 300 + z / 100 % 10 * 100 + z % 100
def vz (z : Int) : Prop := ∃ f s n : Nat, f < 6 ∧ s < 3 ∧ n < 100 ∧ z = 1000 * (f : Int) + 100 * (s : Int) + (n : Int)
def tst (ft : Nat → Int) (z : Int) : Bool := if z / 100 % 10 = 0 then decide (ft (z / 1000).toNat < z % 100) else if z / 100 % 10 = 1 then decide (ft (z / 1000).toNat = z % 100) else decide (z % 100 < ft (z / 1000).toNat)
def op1 (ft : Nat → Int) (z : Int) (st : List Bool) : List Bool :=
  if 0 ≤ z then tst ft z :: st
  else if z = -33 then (match st with
    | a :: r => (!a) :: r
    | [] => [])
  else match st with
    | a :: b :: r => (if z = -38 then b && a else b || a) :: r
    | _ => []
def evs (ft : Nat → Int) : List Int → List Bool → List Bool
  | [], st => st
  | z :: zs, st => evs ft zs (op1 ft z st)
def wfs : List Int → Nat → Nat → Prop
  | [], a, b => a = b
  | z :: zs, a, b => (vz z ∧ a < 11 ∧ wfs zs (a + 1) b) ∨ (z = -33 ∧ 1 ≤ a ∧ wfs zs a b) ∨ ((z = -38 ∨ z = -124) ∧ 2 ≤ a ∧ wfs zs (a - 1) b)
theorem wfs_app : ∀ (l m : List Int) (a b c : Nat), wfs l a b → wfs m b c → wfs (l ++ m) a c := by
  intro l
  induction l with
  | nil => intro m a b c h g; simp only [wfs] at h; subst h; exact g
  | cons z l ih =>
    intro m a b c h g
    simp only [List.cons_append, wfs] at h ⊢
    rcases h with ⟨h1, h2, h3⟩ | ⟨h1, h2, h3⟩ | ⟨h1, h2, h3⟩
    · exact Or.inl ⟨h1, h2, ih m _ _ _ h3 g⟩
    · exact Or.inr (Or.inl ⟨h1, h2, ih m _ _ _ h3 g⟩)
    · exact Or.inr (Or.inr ⟨h1, h2, ih m _ _ _ h3 g⟩)
theorem evs_app (ft : Nat → Int) : ∀ (l m : List Int) (st : List Bool), evs ft (l ++ m) st = evs ft m (evs ft l st) := by
  intro l
  induction l with
  | nil => intro m st; rfl
  | cons z l ih => intro m st; exact ih m _
def rgn (w : gW) (pl : Nat) (g : Int → Int) : Nat → List Int → Prop
  | _, [] => True
  | a, z :: zs => (gI w pl a).toInt = g z ∧ rgn w pl g (a + 1) zs
theorem rgn_c {w u : gW} {pl : Nat} {g : Int → Int} : ∀ (zs : List Int) (a : Nat), (∀ k, a ≤ k → k < a + zs.length → gI u pl k = gI w pl k) → rgn w pl g a zs → rgn u pl g a zs := by
  intro zs
  induction zs with
  | nil => intro a _ _; trivial
  | cons z zs ih =>
    intro a h q
    simp only [List.length_cons] at h
    exact ⟨by rw [h a (by omega) (by omega)]; exact q.1, ih (a + 1) (fun k h1 h2 => h k (by omega) (by omega)) q.2⟩
def bn : List Bool → Nat
  | [] => 0
  | b :: r => b.toNat + 2 * bn r
theorem bn_lt : ∀ (st : List Bool) (n : Nat), st.length ≤ n → bn st < 2 ^ n := by
  intro st
  induction st with
  | nil => intro n _; exact Nat.pos_of_ne_zero (by simp)
  | cons b r ih =>
    intro n h
    obtain ⟨m, rfl⟩ : ∃ m, n = m + 1 := ⟨n - 1, by simp only [List.length_cons] at h; omega⟩
    have := ih m (by simp only [List.length_cons] at h; omega)
    rw [Nat.pow_succ]
    cases b <;> simp only [bn, Bool.toNat_false, Bool.toNat_true] <;> omega
theorem vz_in {z : Int} (h : vz z) : 0 ≤ z ∧ z < 6000 ∧ z ≠ -33 ∧ z ≠ -38 ∧ z ≠ -124 := by
  obtain ⟨f, s, n, h1, h2, h3, h4⟩ := h
  omega
theorem cdz_t {z : Int} {f s n : Nat} (h1 : f < 6) (h2 : s < 3) (h3 : n < 100) (h4 : z = 1000 * (f : Int) + 100 * (s : Int) + (n : Int)) : cdz z = 3 + 300 * (f : Int) + 100 * (s : Int) + (n : Int) := by
  unfold cdz
  rw [if_neg (by omega), if_neg (by omega), if_neg (by omega)]
  omega
theorem tst_t {ft : Nat → Int} {z : Int} {f s n : Nat} (h1 : f < 6) (h2 : s < 3) (h3 : n < 100) (h4 : z = 1000 * (f : Int) + 100 * (s : Int) + (n : Int)) : tst ft z = if s = 0 then decide (ft f < n) else if s = 1 then decide (ft f = n) else decide ((n : Int) < ft f) := by
  unfold tst
  have e1 : z / 100 % 10 = (s : Int) := by omega
  have e2 : (z / 1000).toNat = f := by omega
  have e3 : z % 100 = (n : Int) := by omega
  rw [e1, e2, e3]
  have : s = 0 ∨ s = 1 ∨ s = 2 := by omega
  rcases this with rfl | rfl | rfl <;> simp
set_option maxHeartbeats 4000000 in
theorem c_testHolds {N tp : Nat} {w : gW} {a1 : Int32} {ft : Nat → Int} {z : Int} (hL : Lay w) (hT : isT tp) (hv : vz z) (h1 : a1.toInt = cdz z - 3) (hf : ∀ k, k < 6 → (gI w (tp + 7) k).toInt = ft k) :
    ok (f_Tn_testHolds N tp a1 w) (fun r u => u = w ∧ r.toInt = bz (tst ft z)) := by
  obtain ⟨f, s, n, hf6, hs3, hn, hz⟩ := hv
  obtain ⟨t0, -, -, -, -, -, -, t9, -, -, -, -, -, -, s9⟩ := lay_T hL hT
  rw [cdz_t hf6 hs3 hn hz] at h1
  have e : a1 = nI (300 * f + 100 * s + n) := nI_ti (by omega)
  have d1 : a1 / 300 = nI f := by
    rw [e, show (300 : Int32) = nI 300 from rfl, pk_div (by omega) (by omega) (by omega)]; congr 1; omega
  have d2 : a1 - a1 / 100 * 100 = nI n := by
    rw [e, show (100 : Int32) = nI 100 from rfl, pk_rem (by omega) (by omega) (by omega)]; congr 1; omega
  have d3 : a1 / 100 - a1 / 100 / 3 * 3 = nI s := by
    rw [e, show (100 : Int32) = nI 100 from rfl, pk_div (by omega) (by omega) (by omega), show (3 : Int32) = nI 3 from rfl, pk_rem (by omega) (by omega) (by omega)]; congr 1; omega
  have i1 : (nI f).toInt = (f : Int) := nI_toInt (by omega)
  have i2 : (nI n).toInt = (n : Int) := nI_toInt (by omega)
  have i3 : (nI s).toInt = (s : Int) := nI_toInt (by omega)
  have g1 := hf f hf6
  have c1 : ¬ (f : Int) < 0 := by omega
  have c2 : ¬ 6 ≤ f := by omega
  have z1 : ((2 : Nat) : Int) = 2 := rfl
  have z2 : ¬ (1 : Int) = 0 := by omega
  have hs : s = 0 ∨ s = 1 ∨ s = 2 := by omega
  rcases hs with rfl | rfl | rfl
  · rw [tst_t hf6 hs3 hn hz, if_pos rfl]
    simp only [f_Tn_testHolds, f_Tn_testHolds_b0, ok_kl, ok_cd, ok_gd, ok_bd, ok_rr1, ok_nr0, ok_nr1, ok_ret, sh_sI, gR_sI, sh_sR, sh_sL, gI_sL, gR_sL, gL_sI, gL_sR, sh_cI, gR_cI, sh_cL, gR_cL, gI_cL, gR_ne, gR_nk, gR_eq, gI_sR, gI_eq, gI_ne, gI_nk, ti_lt, ti_le, ti_eq, ti_nat, ti_0, ti_1, ti_2, ti_3, ti_4, ti_5, ti_6, ti_7, ti_8, ti_9, ti_10, ti_60, ti_99, ti_199, ti_100, ti_19, ti_20, ti_127, ti_n1, true_and, and_true, false_and, and_false, not_false_eq_true, not_true_eq_false, false_implies, true_implies, Int.reduceEq, Int.reduceLT, Int.reduceLE, Int.reduceNeg, or_self, or_true, true_or, or_false, false_or, implies_true, Int.toNat_natCast, Int.reduceToNat, d1, d2, d3, t0, t9, s9, i1, i2, i3, g1, c1, c2, Int.natCast_zero, Int.natCast_one, z1, z2]
    by_cases c : ft f < (n : Int)
    · have c' : ¬ (n : Int) ≤ ft f := by omega
      simp only [c, c', decide_true, ok_kl, ok_cd, ok_gd, ok_bd, ok_rr1, ok_nr0, ok_nr1, ok_ret, sh_sI, gR_sI, sh_sR, sh_sL, gI_sL, gR_sL, gL_sI, gL_sR, sh_cI, gR_cI, sh_cL, gR_cL, gI_cL, gR_ne, gR_nk, gR_eq, gI_sR, gI_eq, gI_ne, gI_nk, ti_lt, ti_le, ti_eq, ti_nat, ti_0, ti_1, ti_2, ti_3, ti_4, ti_5, ti_6, ti_7, ti_8, ti_9, ti_10, ti_60, ti_99, ti_199, ti_100, ti_19, ti_20, ti_127, ti_n1, true_and, and_true, false_and, and_false, not_false_eq_true, not_true_eq_false, false_implies, true_implies, Int.reduceEq, Int.reduceLT, Int.reduceLE, Int.reduceNeg, or_self, or_true, true_or, or_false, false_or, implies_true, Int.toNat_natCast, Int.reduceToNat, bz]; simp
    · have c' : (n : Int) ≤ ft f := by omega
      simp only [c, c', decide_false, ok_kl, ok_cd, ok_gd, ok_bd, ok_rr1, ok_nr0, ok_nr1, ok_ret, sh_sI, gR_sI, sh_sR, sh_sL, gI_sL, gR_sL, gL_sI, gL_sR, sh_cI, gR_cI, sh_cL, gR_cL, gI_cL, gR_ne, gR_nk, gR_eq, gI_sR, gI_eq, gI_ne, gI_nk, ti_lt, ti_le, ti_eq, ti_nat, ti_0, ti_1, ti_2, ti_3, ti_4, ti_5, ti_6, ti_7, ti_8, ti_9, ti_10, ti_60, ti_99, ti_199, ti_100, ti_19, ti_20, ti_127, ti_n1, true_and, and_true, false_and, and_false, not_false_eq_true, not_true_eq_false, false_implies, true_implies, Int.reduceEq, Int.reduceLT, Int.reduceLE, Int.reduceNeg, or_self, or_true, true_or, or_false, false_or, implies_true, Int.toNat_natCast, Int.reduceToNat, bz]; simp
  · rw [tst_t hf6 hs3 hn hz, if_neg (by omega), if_pos rfl]
    simp only [f_Tn_testHolds, f_Tn_testHolds_b0, ok_kl, ok_cd, ok_gd, ok_bd, ok_rr1, ok_nr0, ok_nr1, ok_ret, sh_sI, gR_sI, sh_sR, sh_sL, gI_sL, gR_sL, gL_sI, gL_sR, sh_cI, gR_cI, sh_cL, gR_cL, gI_cL, gR_ne, gR_nk, gR_eq, gI_sR, gI_eq, gI_ne, gI_nk, ti_lt, ti_le, ti_eq, ti_nat, ti_0, ti_1, ti_2, ti_3, ti_4, ti_5, ti_6, ti_7, ti_8, ti_9, ti_10, ti_60, ti_99, ti_199, ti_100, ti_19, ti_20, ti_127, ti_n1, true_and, and_true, false_and, and_false, not_false_eq_true, not_true_eq_false, false_implies, true_implies, Int.reduceEq, Int.reduceLT, Int.reduceLE, Int.reduceNeg, or_self, or_true, true_or, or_false, false_or, implies_true, Int.toNat_natCast, Int.reduceToNat, d1, d2, d3, t0, t9, s9, i1, i2, i3, g1, c1, c2, Int.natCast_zero, Int.natCast_one, z1, z2]
    by_cases c : ft f = (n : Int)
    · simp [c, bz]
    · simp [c, bz]
  · rw [tst_t hf6 hs3 hn hz, if_neg (by omega), if_neg (by omega)]
    simp only [f_Tn_testHolds, f_Tn_testHolds_b0, ok_kl, ok_cd, ok_gd, ok_bd, ok_rr1, ok_nr0, ok_nr1, ok_ret, sh_sI, gR_sI, sh_sR, sh_sL, gI_sL, gR_sL, gL_sI, gL_sR, sh_cI, gR_cI, sh_cL, gR_cL, gI_cL, gR_ne, gR_nk, gR_eq, gI_sR, gI_eq, gI_ne, gI_nk, ti_lt, ti_le, ti_eq, ti_nat, ti_0, ti_1, ti_2, ti_3, ti_4, ti_5, ti_6, ti_7, ti_8, ti_9, ti_10, ti_60, ti_99, ti_199, ti_100, ti_19, ti_20, ti_127, ti_n1, true_and, and_true, false_and, and_false, not_false_eq_true, not_true_eq_false, false_implies, true_implies, Int.reduceEq, Int.reduceLT, Int.reduceLE, Int.reduceNeg, or_self, or_true, true_or, or_false, false_or, implies_true, Int.toNat_natCast, Int.reduceToNat, d1, d2, d3, t0, t9, s9, i1, i2, i3, g1, c1, c2, Int.natCast_zero, Int.natCast_one, z1, z2]
    by_cases c : (n : Int) < ft f
    · have c' : ¬ ft f ≤ (n : Int) := by omega
      simp [c, c', bz]
    · have c' : ft f ≤ (n : Int) := by omega
      simp [c, c', bz]
def hdb : List Bool → Bool
  | [] => false
  | b :: _ => b
set_option maxHeartbeats 8000000 in
theorem c_holds {N tp a : Nat} {w : gW} {a1 a2 : Int32} {ft : Nat → Int} {zs : List Int} (hN : 1000 ≤ N) (hL : Lay w) (hT : isT tp) (h1 : a1.toInt = (a : Int)) (h2 : a2.toInt = ((a + zs.length : Nat) : Int)) (h3 : a + zs.length ≤ 100) (hr : rgn w (tp + 6) cdz a zs) (hw : wfs zs 0 1) (hf : ∀ k, k < 6 → (gI w (tp + 7) k).toInt = ft k) :
    ok (f_Tn_holds N tp a1 a2 w) (fun r u => u = w ∧ r.toInt = bz (hdb (evs ft zs []))) := by
  obtain ⟨t0, -, -, -, -, -, t7, -, -, -, -, -, -, s7, -⟩ := lay_T hL hT
  have z2 : ¬ (1 : Int) = 0 := by omega
  unfold f_Tn_holds f_Tn_holds_b0 f_Tn_holds_l5
  refine itr_li (β := Int) (fun R q => q.1 = tp ∧ q.2.1 = a2 ∧ q.2.2.2.2 = w ∧ ∃ (st : List Bool) (i : Nat), q.2.2.1 = nI (bn st) ∧ q.2.2.2.1.toInt = (i : Int) ∧ i + R.length = a + zs.length ∧ rgn w (tp + 6) cdz i R ∧ wfs R st.length 1 ∧ st.length ≤ 11 ∧ evs ft R st = evs ft zs []) ?_ ?_ zs N _ ?_ (by omega)
  · rintro rec z R ⟨q0, q1, a3, a4, u⟩ ⟨e0, e1, e2, st, i, e3, e4, e5, e6, e7, e8, e9⟩ IH
    simp only at e0 e1 e2 e3 e4
    subst e0 e1 e2 e3
    simp only [List.length_cons] at e5
    obtain ⟨e6, e6'⟩ := e6
    have c0 : ¬ q1.toInt ≤ (i : Int) := by omega
    have c1 : ¬ (i : Int) < 0 := by omega
    have c2 : ¬ 100 ≤ i := by omega
    have n1 : (a4 + 1).toInt = ((i + 1 : Nat) : Int) := by rw [ti_add1 (by omega)]; omega
    have hb := bn_lt st 11 e8
    simp only [wfs] at e7
    rcases e7 with ⟨hv, hl, hw'⟩ | ⟨rfl, hl, hw'⟩ | ⟨hz, hl, hw'⟩
    · have hv' := hv
      obtain ⟨f, s, n, hf6, hs3, hn, hz⟩ := hv'
      have k1 := cdz_t hf6 hs3 hn hz
      have k2 : ¬ cdz z < 3 := by omega
      have hb' := bn_lt st 10 (by omega)
      have k3 := c_testHolds (N := N) (a1 := gI u (q0 + 6) i - 3) hL hT hv (by rw [ti_sub] <;> rw [e6, ti_3] <;> omega) hf
      have sh := bt_shl (bn st) (by omega)
      simp only [f_Tn_holds_b5, ok_kl, ok_cd, ok_gd, ok_bd, ok_rr1, ok_nr0, ok_nr1, ok_ret, sh_sI, gR_sI, sh_sR, sh_sL, gI_sL, gR_sL, gL_sI, gL_sR, sh_cI, gR_cI, sh_cL, gR_cL, gI_cL, gR_ne, gR_nk, gR_eq, gI_sR, gI_eq, gI_ne, gI_nk, ti_lt, ti_le, ti_eq, ti_nat, ti_0, ti_1, ti_2, ti_3, ti_4, ti_5, ti_6, ti_7, ti_8, ti_9, ti_10, ti_60, ti_99, ti_199, ti_100, ti_19, ti_20, ti_127, ti_n1, true_and, and_true, false_and, and_false, not_false_eq_true, not_true_eq_false, false_implies, true_implies, Int.reduceEq, Int.reduceLT, Int.reduceLE, Int.reduceNeg, or_self, or_true, true_or, or_false, false_or, implies_true, Int.toNat_natCast, Int.reduceToNat, t0, t7, s7, c0, c1, c2, e4, e6, k2, sh]
      refine k3.mono ?_
      rintro r v ⟨rfl, hq⟩
      have op : op1 ft z st = tst ft z :: st := by unfold op1; rw [if_pos (by omega)]
      by_cases c : tst ft z = true
      · have hr1 := bz_1 hq c
        have z10 : ¬ (1 : Int) = 0 := by omega
        simp only [ok_kl, ok_cd, ok_gd, ok_bd, ok_rr1, ok_nr0, ok_nr1, ok_ret, sh_sI, gR_sI, sh_sR, sh_sL, gI_sL, gR_sL, gL_sI, gL_sR, sh_cI, gR_cI, sh_cL, gR_cL, gI_cL, gR_ne, gR_nk, gR_eq, gI_sR, gI_eq, gI_ne, gI_nk, ti_lt, ti_le, ti_eq, ti_nat, ti_0, ti_1, ti_2, ti_3, ti_4, ti_5, ti_6, ti_7, ti_8, ti_9, ti_10, ti_60, ti_99, ti_199, ti_100, ti_19, ti_20, ti_127, ti_n1, true_and, and_true, false_and, and_false, not_false_eq_true, not_true_eq_false, false_implies, true_implies, Int.reduceEq, Int.reduceLT, Int.reduceLE, Int.reduceNeg, or_self, or_true, true_or, or_false, false_or, implies_true, Int.toNat_natCast, Int.reduceToNat, hr1, z2]
        rw [bt_or1 _ (by omega)]
        refine IH _ ?_; refine ⟨rfl, rfl, rfl, true :: st, i + 1, by show nI _ = nI _; congr 1; simp only [bn, Bool.toNat_true]; omega, n1, by omega, e6', hw', by simp only [List.length_cons]; omega, ?_⟩
        rw [← e9]; simp only [evs, op, c]
      · have hr1 := bz_0 hq c
        simp only [ok_kl, ok_cd, ok_gd, ok_bd, ok_rr1, ok_nr0, ok_nr1, ok_ret, sh_sI, gR_sI, sh_sR, sh_sL, gI_sL, gR_sL, gL_sI, gL_sR, sh_cI, gR_cI, sh_cL, gR_cL, gI_cL, gR_ne, gR_nk, gR_eq, gI_sR, gI_eq, gI_ne, gI_nk, ti_lt, ti_le, ti_eq, ti_nat, ti_0, ti_1, ti_2, ti_3, ti_4, ti_5, ti_6, ti_7, ti_8, ti_9, ti_10, ti_60, ti_99, ti_199, ti_100, ti_19, ti_20, ti_127, ti_n1, true_and, and_true, false_and, and_false, not_false_eq_true, not_true_eq_false, false_implies, true_implies, Int.reduceEq, Int.reduceLT, Int.reduceLE, Int.reduceNeg, or_self, or_true, true_or, or_false, false_or, implies_true, Int.toNat_natCast, Int.reduceToNat, hr1, z2]
        rw [bt_or0 _ (by omega)]
        refine IH _ ?_; refine ⟨rfl, rfl, rfl, false :: st, i + 1, by show nI _ = nI _; congr 1; simp only [bn, Bool.toNat_false]; omega, n1, by omega, e6', hw', by simp only [List.length_cons]; omega, ?_⟩
        rw [← e9]; simp only [evs, op, Bool.not_eq_true _ ▸ c]
    · obtain ⟨b, r, rfl⟩ : ∃ b r, st = b :: r := by
        cases st with
        | nil => simp at hl
        | cons b r => exact ⟨b, r, rfl⟩
      have k1 : cdz (-33) = 2 := rfl
      rw [k1] at e6
      have op : op1 ft (-33) (b :: r) = (!b) :: r := rfl
      have hb2 := bn_lt r 10 (by simp only [List.length_cons] at e8; omega)
      have bx := bt_xor (bn r) (by omega)
      simp only [f_Tn_holds_b5, ok_kl, ok_cd, ok_gd, ok_bd, ok_rr1, ok_nr0, ok_nr1, ok_ret, sh_sI, gR_sI, sh_sR, sh_sL, gI_sL, gR_sL, gL_sI, gL_sR, sh_cI, gR_cI, sh_cL, gR_cL, gI_cL, gR_ne, gR_nk, gR_eq, gI_sR, gI_eq, gI_ne, gI_nk, ti_lt, ti_le, ti_eq, ti_nat, ti_0, ti_1, ti_2, ti_3, ti_4, ti_5, ti_6, ti_7, ti_8, ti_9, ti_10, ti_60, ti_99, ti_199, ti_100, ti_19, ti_20, ti_127, ti_n1, true_and, and_true, false_and, and_false, not_false_eq_true, not_true_eq_false, false_implies, true_implies, Int.reduceEq, Int.reduceLT, Int.reduceLE, Int.reduceNeg, or_self, or_true, true_or, or_false, false_or, implies_true, Int.toNat_natCast, Int.reduceToNat, t0, t7, s7, c0, c1, c2, e4, e6]
      refine IH _ ?_; refine ⟨rfl, rfl, rfl, (!b) :: r, i + 1, ?_, n1, by omega, e6', by simpa using hw', by simpa using e8, ?_⟩
      · cases b
        · simp only [bn, Bool.toNat_false, Bool.not_false, Bool.toNat_true, Nat.zero_add]; rw [bx.1, Nat.add_comm]
        · simp only [bn, Bool.toNat_false, Bool.not_true, Bool.toNat_true, Nat.zero_add]; rw [Nat.add_comm, bx.2]
      · rw [← e9]; simp only [evs, op]
    · obtain ⟨b, b2, r, rfl⟩ : ∃ b b2 r, st = b :: b2 :: r := by
        match st, hl with
        | b :: b2 :: r, _ => exact ⟨b, b2, r, rfl⟩
      have hb2 := bn_lt (b2 :: r) 10 (by simp only [List.length_cons] at e8 ⊢; omega)
      have sr := bt_shr (bn (b :: b2 :: r)) (by omega)
      have sr2 : bn (b :: b2 :: r) / 2 = bn (b2 :: r) := by simp only [bn]; cases b <;> simp <;> omega
      have sa := bt_and (bn (b :: b2 :: r)) (by omega)
      have sa2 : bn (b :: b2 :: r) % 2 = b.toNat := by simp only [bn]; cases b <;> simp <;> omega
      rw [sr2] at sr
      rw [sa2] at sa
      have hb3 := bn_lt r 9 (by simp only [List.length_cons] at e8 ⊢; omega)
      have o0 := bt_or0 (bn (b2 :: r)) (by omega)
      have o1 := bt_or1 (bn r) (by omega)
      have o2 := bt_or1' (bn r) (by omega)
      have a2 := bt_and2 (bn (b2 :: r)) (by omega)
      have w' : wfs R (b2 :: r).length 1 := by simpa using hw'
      have hl' : (b2 :: r).length ≤ 11 := by simp only [List.length_cons] at e8 ⊢; omega
      rcases hz with rfl | rfl
      · have k1 : cdz (-38) = 1 := rfl
        rw [k1] at e6
        have op : op1 ft (-38) (b :: b2 :: r) = (b2 && b) :: r := rfl
        cases b
        · simp only [f_Tn_holds_b5, ok_kl, ok_cd, ok_gd, ok_bd, ok_rr1, ok_nr0, ok_nr1, ok_ret, sh_sI, gR_sI, sh_sR, sh_sL, gI_sL, gR_sL, gL_sI, gL_sR, sh_cI, gR_cI, sh_cL, gR_cL, gI_cL, gR_ne, gR_nk, gR_eq, gI_sR, gI_eq, gI_ne, gI_nk, ti_lt, ti_le, ti_eq, ti_nat, ti_0, ti_1, ti_2, ti_3, ti_4, ti_5, ti_6, ti_7, ti_8, ti_9, ti_10, ti_60, ti_99, ti_199, ti_100, ti_19, ti_20, ti_127, ti_n1, true_and, and_true, false_and, and_false, not_false_eq_true, not_true_eq_false, false_implies, true_implies, Int.reduceEq, Int.reduceLT, Int.reduceLE, Int.reduceNeg, or_self, or_true, true_or, or_false, false_or, implies_true, Int.toNat_natCast, Int.reduceToNat, t0, t7, s7, c0, c1, c2, e4, e6, sr, sa, Bool.toNat_false, show (nI 0).toInt = 0 from rfl]
          refine IH _ ?_; refine ⟨rfl, rfl, rfl, false :: r, i + 1, ?_, n1, by omega, e6', by simpa using w', by simpa using hl', ?_⟩
          · show _ = nI _; rw [a2]; refine congrArg nI ?_; have q1 : bn (b2 :: r) = b2.toNat + 2 * bn r := rfl
            have q2 : bn (false :: r) = 2 * bn r := by simp [bn]
            have q3 : b2.toNat ≤ 1 := by cases b2 <;> decide
            rw [q1, q2]; omega
          · rw [← e9]; simp only [evs, op, Bool.and_false]
        · simp only [f_Tn_holds_b5, ok_kl, ok_cd, ok_gd, ok_bd, ok_rr1, ok_nr0, ok_nr1, ok_ret, sh_sI, gR_sI, sh_sR, sh_sL, gI_sL, gR_sL, gL_sI, gL_sR, sh_cI, gR_cI, sh_cL, gR_cL, gI_cL, gR_ne, gR_nk, gR_eq, gI_sR, gI_eq, gI_ne, gI_nk, ti_lt, ti_le, ti_eq, ti_nat, ti_0, ti_1, ti_2, ti_3, ti_4, ti_5, ti_6, ti_7, ti_8, ti_9, ti_10, ti_60, ti_99, ti_199, ti_100, ti_19, ti_20, ti_127, ti_n1, true_and, and_true, false_and, and_false, not_false_eq_true, not_true_eq_false, false_implies, true_implies, Int.reduceEq, Int.reduceLT, Int.reduceLE, Int.reduceNeg, or_self, or_true, true_or, or_false, false_or, implies_true, Int.toNat_natCast, Int.reduceToNat, t0, t7, s7, c0, c1, c2, e4, e6, sr, sa, Bool.toNat_true, show (nI 1).toInt = 1 from rfl]
          refine IH _ ?_; refine ⟨rfl, rfl, rfl, b2 :: r, i + 1, rfl, n1, by omega, e6', by simpa using w', by simpa using hl', ?_⟩
          rw [← e9]; simp only [evs, op, Bool.and_true]
      · have k1 : cdz (-124) = 0 := rfl
        rw [k1] at e6
        have op : op1 ft (-124) (b :: b2 :: r) = (b2 || b) :: r := rfl
        simp only [f_Tn_holds_b5, ok_kl, ok_cd, ok_gd, ok_bd, ok_rr1, ok_nr0, ok_nr1, ok_ret, sh_sI, gR_sI, sh_sR, sh_sL, gI_sL, gR_sL, gL_sI, gL_sR, sh_cI, gR_cI, sh_cL, gR_cL, gI_cL, gR_ne, gR_nk, gR_eq, gI_sR, gI_eq, gI_ne, gI_nk, ti_lt, ti_le, ti_eq, ti_nat, ti_0, ti_1, ti_2, ti_3, ti_4, ti_5, ti_6, ti_7, ti_8, ti_9, ti_10, ti_60, ti_99, ti_199, ti_100, ti_19, ti_20, ti_127, ti_n1, true_and, and_true, false_and, and_false, not_false_eq_true, not_true_eq_false, false_implies, true_implies, Int.reduceEq, Int.reduceLT, Int.reduceLE, Int.reduceNeg, or_self, or_true, true_or, or_false, false_or, implies_true, Int.toNat_natCast, Int.reduceToNat, t0, t7, s7, c0, c1, c2, e4, e6, sr, sa]
        cases b
        · refine IH _ ?_; refine ⟨rfl, rfl, rfl, b2 :: r, i + 1, ?_, n1, by omega, e6', by simpa using w', by simpa using hl', ?_⟩
          · exact o0
          · rw [← e9]; simp only [evs, op, Bool.or_false]
        · refine IH _ ?_; refine ⟨rfl, rfl, rfl, true :: r, i + 1, ?_, n1, by omega, e6', by simpa using w', by simpa using hl', ?_⟩
          · cases b2
            · simp only [bn, Bool.toNat_false, Bool.toNat_true, Nat.zero_add]; rw [Nat.add_comm 1]; exact o1
            · simp only [bn, Bool.toNat_true]; rw [Nat.add_comm 1]; exact o2
          · rw [← e9]; simp only [evs, op, Bool.or_true]
  · rintro rec ⟨q0, q1, a3, a4, u⟩ ⟨e0, e1, e2, st, i, e3, e4, e5, e6, e7, e8, e9⟩
    simp only at e0 e1 e2 e3 e4
    subst e0 e1 e2 e3
    simp only [List.length_nil] at e5
    have c0 : q1.toInt ≤ (i : Int) := by omega
    simp only [wfs] at e7
    obtain ⟨b, rfl⟩ : ∃ b, st = [b] := by
      match st, e7 with
      | [b], _ => exact ⟨b, rfl⟩
    have sa := bt_and (bn [b]) (by cases b <;> simp [bn])
    simp only [evs] at e9
    rw [← e9]
    simp only [f_Tn_holds_b5, ok_kl, ok_cd, ok_gd, ok_bd, ok_rr1, ok_nr0, ok_nr1, ok_ret, sh_sI, gR_sI, sh_sR, sh_sL, gI_sL, gR_sL, gL_sI, gL_sR, sh_cI, gR_cI, sh_cL, gR_cL, gI_cL, gR_ne, gR_nk, gR_eq, gI_sR, gI_eq, gI_ne, gI_nk, ti_lt, ti_le, ti_eq, ti_nat, ti_0, ti_1, ti_2, ti_3, ti_4, ti_5, ti_6, ti_7, ti_8, ti_9, ti_10, ti_60, ti_99, ti_199, ti_100, ti_19, ti_20, ti_127, ti_n1, true_and, and_true, false_and, and_false, not_false_eq_true, not_true_eq_false, false_implies, true_implies, Int.reduceEq, Int.reduceLT, Int.reduceLE, Int.reduceNeg, or_self, or_true, true_or, or_false, false_or, implies_true, Int.toNat_natCast, Int.reduceToNat, c0, e4, sa]
    cases b
    · simp [bn, bz, hdb, nI_0, ti_0]
    · simp [bn, bz, hdb, show nI 1 = 1 from rfl, ti_1]
  · exact ⟨rfl, rfl, rfl, [], a, rfl, h1, rfl, hr, hw, by simp, rfl⟩
