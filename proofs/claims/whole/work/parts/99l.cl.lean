/-! ===== a town's text: clauses, in the class =====  -/
/-- clauses as they stand in rows p1 .. p4, their ops in pl below B -/
def KC (w : gW) (p1 p2 p3 p4 pl : Nat) (g : Int → Int) (B : Nat) : Nat → List Cl → Prop
  | _, [] => True
  | c, x :: L => ((gI w p1 c).toInt = x.1 ∧ (gI w p2 c).toInt = x.2.1 ∧ (x.1 ≠ 2 → ∃ a : Nat, (gI w p3 c).toInt = (a : Int) ∧ (gI w p4 c).toInt = ((a + x.2.2.length : Nat) : Int) ∧ a + x.2.2.length ≤ B ∧ rgn w pl g a x.2.2)) ∧ KC w p1 p2 p3 p4 pl g B (c + 1) L
theorem KC.c {w u : gW} {p1 p2 p3 p4 pl B B' : Nat} {g : Int → Int} (hB : B ≤ B') : ∀ (L : List Cl) (c : Nat), (∀ d k, d = p1 ∨ d = p2 ∨ d = p3 ∨ d = p4 → c ≤ k → k < c + L.length → gI u d k = gI w d k) → (∀ k, k < B → gI u pl k = gI w pl k) → KC w p1 p2 p3 p4 pl g B c L → KC u p1 p2 p3 p4 pl g B' c L := by
  intro L
  induction L with
  | nil => intro c _ _ _; trivial
  | cons x L ih =>
    intro c h h' q
    simp only [List.length_cons] at h
    obtain ⟨⟨q1, q2, q3⟩, q4⟩ := q
    refine ⟨⟨by rw [h _ _ (Or.inl rfl) (by omega) (by omega)]; exact q1, by rw [h _ _ (Or.inr (Or.inl rfl)) (by omega) (by omega)]; exact q2, fun hx => ?_⟩, ih (c + 1) (fun d k hd h1 h2 => h d k hd (by omega) (by omega)) h' q4⟩
    obtain ⟨a, a1, a2, a3, a4⟩ := q3 hx
    exact ⟨a, by rw [h _ _ (Or.inr (Or.inr (Or.inl rfl))) (by omega) (by omega)]; exact a1, by rw [h _ _ (Or.inr (Or.inr (Or.inr rfl))) (by omega) (by omega)]; exact a2, by omega, rgn_c _ _ (fun k _ hk => h' k (by omega)) a4⟩
theorem KC.snoc {w : gW} {p1 p2 p3 p4 pl B : Nat} {g : Int → Int} {x : Cl} : ∀ (L : List Cl) (c : Nat), KC w p1 p2 p3 p4 pl g B c L → KC w p1 p2 p3 p4 pl g B (c + L.length) [x] → KC w p1 p2 p3 p4 pl g B c (L ++ [x]) := by
  intro L
  induction L with
  | nil => intro c _ h; exact h
  | cons y L ih =>
    intro c q h
    simp only [List.length_cons] at h
    exact ⟨q.1, ih (c + 1) q.2 (by rw [show c + 1 + L.length = c + (L.length + 1) by omega]; exact h)⟩
theorem KC.tc {w : gW} {tp B : Nat} (hB : B ≤ 100) : ∀ (L : List Cl) (c : Nat), KC w (tp + 2) (tp + 3) (tp + 4) (tp + 5) (tp + 6) cdz B c L → TC w tp c L := by
  intro L
  induction L with
  | nil => intro c _; trivial
  | cons x L ih =>
    intro c q
    obtain ⟨⟨q1, q2, q3⟩, q4⟩ := q
    refine ⟨q1, q2, fun hx => ?_, ih (c + 1) q4⟩
    obtain ⟨a, a1, a2, a3, a4⟩ := q3 hx
    exact ⟨a, a1, a2, by omega, a4⟩
theorem KC.mc {w : gW} {B : Nat} (hB : B ≤ 600) : ∀ (L : List Cl) (c : Nat), KC w 143 144 145 146 147 (fun z => z) B c L → MC w c L := by
  intro L
  induction L with
  | nil => intro c _; trivial
  | cons x L ih =>
    intro c q
    obtain ⟨⟨q1, q2, q3⟩, q4⟩ := q
    refine ⟨q1, q2, fun hx => ?_, ih (c + 1) q4⟩
    obtain ⟨a, a1, a2, a3, a4⟩ := q3 hx
    exact ⟨a, a1, a2, by omega, a4⟩
/-- the letters of a word, and the blank behind it -/
def lt5 (W j : Nat) : Int := if j < 4 then byt W j else 32
def hdA (P : Nat → Int) (W i : Nat) (b : Bool) (q : Nat) : Prop := (∃ j, j < 5 ∧ (∀ k, k < j → P (i + k) = lt5 W k) ∧ P (i + j) ≠ lt5 W j ∧ b = false ∧ q = i + j) ∨ ((∀ k, k < 5 → P (i + k) = lt5 W k) ∧ b = true ∧ q = i + 5)
theorem hdA_det {P : Nat → Int} {W i q q' : Nat} {b b' : Bool} (h : hdA P W i b q) (g : hdA P W i b' q') : b = b' ∧ q = q' := by
  rcases h with ⟨j, h1, h2, h3, rfl, rfl⟩ | ⟨h1, rfl, rfl⟩ <;> rcases g with ⟨j', g1, g2, g3, rfl, rfl⟩ | ⟨g1, rfl, rfl⟩
  · refine ⟨rfl, ?_⟩
    rcases Nat.lt_trichotomy j j' with e | e | e
    · exact absurd (g2 j e) h3
    · rw [e]
    · exact absurd (h2 j' e) g3
  · exact absurd (g1 j h1) h3
  · exact absurd (h1 j' g1) g3
  · exact ⟨rfl, rfl⟩
/-- the word that a letter begins -/
def wdF (x : Int) : Nat := if x = 104 then 0 else if x = 107 then 1 else 2
theorem wdF_in {x : Int} : wdF x < 3 := by unfold wdF; repeat' split
                                           all_goals decide
/-- a clause at i -/
def clA (t : Nat → Int) (n i : Nat) (b : Bool) (q : Nat) (x : Cl) : Prop :=
  (hdA (PK t n) (wdF (PK t n i)) i false q ∧ b = false) ∨ (∃ q0, hdA (PK t n) (wdF (PK t n i)) i true q0 ∧ ((nmA (PK t n) q0 q (-1) ∧ b = false) ∨ ∃ q1 v, 0 ≤ v ∧ nmA (PK t n) q0 q1 v ∧
    ((wdF (PK t n i) = 2 ∧ b = true ∧ q = q1 ∧ x = (2, v, [])) ∨ (wdF (PK t n i) ≠ 2 ∧ ((PK t n q1 ≠ 32 ∧ b = false ∧ q = q1) ∨ (PK t n q1 = 32 ∧ ((SEf t n 0 (q1 + 1) q ∧ b = false) ∨ ∃ ops, SEA t n 0 (q1 + 1) q ops ∧ (PK t n q ≠ 38 ∧ PK t n q ≠ 124) ∧ b = true ∧ x = ((wdF (PK t n i) : Int), v, ops))))))))
section CLC
variable {N tp n i k c : Nat} {w u : gW} {t : Nat → Int} {a1 : Int32}
theorem c_charAt (hN : 1000 ≤ N) {a m j : Nat} {x : Int32} (ha : a < 3) (hx : x.toInt = (j : Int)) (hj : j < 4) : ok (f_S_charAt N a x w) (fun r u => u = w ∧ r.toInt = byt a j) := by
  have h5 : a < 5 := by omega
  have e1 : ¬ (((1 : Int32) : Int32) = 0) := by decide
  have hl : gLen.getD a 0 = 4 := by
    rcases (by omega : a = 0 ∨ a = 1 ∨ a = 2) with rfl | rfl | rfl <;> rfl
  have key : ∀ a, a < 3 → ∀ j, j < 4 → ((gByt.getD a []).getD j 0 &&& 255).toUInt32 % 65536 = ((gByt.getD a []).getD j 0).toUInt32 ∧ narrow .char (.int ((gByt.getD a []).getD j 0)) = .int ((gByt.getD a []).getD j 0) := by decide +kernel
  obtain ⟨k1, k2⟩ := key a ha j hj
  have k3 : (((gByt.getD a []).getD j 0 &&& 255).toUInt32 % 65536).toInt32 = (gByt.getD a []).getD j 0 := by rw [k1]; rfl
  unfold f_S_charAt f_S_charAt_b0
  simp only [ok_gd, h5, true_and]
  unfold f_S_isLatin1 f_S_isLatin1_b0
  refine ok_call (P := fun r u => u = w ∧ r = 1) (ok_cdf e1 ?_) ?_
  · simp only [ok_gd, h5, true_and]
    exact ok_cdt trivial (ok_ret.mpr ⟨rfl, rfl⟩)
  rintro r u ⟨rfl, rfl⟩
  refine ok_cdf (by decide) ?_
  unfold f_L1_charAt f_L1_charAt_b0
  refine ok_call (P := fun r z => z = u ∧ r = (gByt.getD a []).getD j 0) ?_ ?_
  · have n1 := nat_of hx
    have g1 := ix_of (m := 4) hx hj
    rw [n1] at g1
    have e4 : (Int32.ofNat 4).toInt = 4 := rfl
    simp only [ok_gd, ok_bd, h5, true_and, hl]
    unfold f_S_checkIndex f_S_checkIndex_b0 f_Pc_checkIndex f_Pc_checkIndex_b0
    refine ok_call (P := fun _ z => z = u) ?_ ?_
    · refine ok_call (P := fun _ z => z = u) (ok_cdf (by rw [ti_lt, hx, ti_0]; omega) (ok_cdt (by rw [ti_lt, hx, e4]; omega) (ok_ret.mpr rfl))) ?_
      rintro r z rfl
      exact ok_ret.mpr rfl
    rintro - z rfl
    simp only [ok_gd, ok_bd, true_and, n1, g1, not_false_eq_true, k3, k2]
    exact ok_ret.mpr ⟨rfl, rfl⟩
  rintro r z ⟨rfl, rfl⟩
  simp only [ok_gd, true_and, k2]
  exact ok_ret.mpr ⟨rfl, rfl⟩
theorem byt_in : ∀ W, W < 3 → ∀ j, j < 4 → 0 ≤ byt W j := by decide +kernel
set_option maxHeartbeats 1000000 in
theorem c_word {W : Nat} (hN : 1000 ≤ N) (hW : W < 3) (ha : a1.toInt = (W : Int)) (h : CT w tp t n) (hp : (gI w tp 12).toInt = (i : Int)) (hi : i ≤ n) : ok (f_Tn_takesWord N tp a1 w) (fun r u => ∃ j : Nat, j ≤ 4 ∧ (∀ k, k < j → PK t n (i + k) = byt W k) ∧ AV tp w u (i + j) ∧ i + j ≤ n ∧ ((r = 1 ∧ j = 4) ∨ (r = 0 ∧ j < 4 ∧ PK t n (i + j) ≠ byt W j))) := by
  have hl : gLen.getD W 0 = 4 := by
    rcases (by omega : W = 0 ∨ W = 1 ∨ W = 2) with rfl | rfl | rfl <;> rfl
  have hn := h.2.2.2.2.1
  have L : ok (f_Tn_takesWord_l24 N tp W 0 w) (fun r u => ∃ j : Nat, j ≤ 4 ∧ (∀ k, k < j → PK t n (i + k) = byt W k) ∧ AV tp w u (i + j) ∧ i + j ≤ n ∧ ((r = 1 ∧ j = 4) ∨ (r = 0 ∧ j < 4 ∧ PK t n (i + j) ≠ byt W j))) := by
    unfold f_Tn_takesWord_l24
    refine itr_up (fun j q => q.1 = tp ∧ q.2.1 = W ∧ q.2.2.1.toInt = (j : Int) ∧ AV tp w q.2.2.2 (i + j) ∧ i + j ≤ n ∧ ∀ k, k < j → PK t n (i + k) = byt W k) 4 ?_ ?_ N 0 _ (by omega) ?_ (by omega)
    · rintro rec j ⟨b0, b1, a3, u⟩ hj ⟨q0, q1, q3, hav, hij, hk⟩ IH
      simp only at q0 q1 q3 hav
      subst q0 q1
      have hu := h.cf hav.cf
      have tu := (lay_T hu.1 hu.2.1).1
      show ok (f_Tn_takesWord_b24 N rec b0 b1 a3 u) _
      unfold f_Tn_takesWord_b24
      simp only [ok_gd, (show b1 < 5 by omega), true_and]
      refine ok_call (c_Slen (by omega) hl (by decide)) ?_
      rintro r2 u2 ⟨rfl, hr2⟩
      refine ok_cdf (by rw [ti_le, hr2, q3]; omega) ?_
      refine ok_call (c_charAt (m := 4) hN hW q3 hj) ?_
      rintro r3 u3 ⟨rfl, hr3⟩
      simp only [ok_gd, true_and, tu]
      refine ok_call (c_takes (a1 := r3) hu hav.2 hij (by rw [hr3]; exact byt_in b1 hW j hj)) ?_
      rintro r4 u4 (⟨rfl, hpk, hin, hav4⟩ | ⟨rfl, hpk, rfl⟩) <;> rw [hr3] at hpk
      · refine ok_cdf (by decide) ?_
        rw [ok_bd]
        refine IH _ ⟨rfl, rfl, ti_p1 q3 (by omega), ⟨hav.1.tr hav4.1, hav4.2⟩, by omega, fun k hk' => ?_⟩
        by_cases e : k = j
        · rw [e]; exact hpk
        · exact hk k (by omega)
      · exact ok_cdt rfl (ok_ret.mpr ⟨j, by omega, hk, hav, hij, Or.inr ⟨rfl, hj, hpk⟩⟩)
    · rintro rec ⟨b0, b1, a3, u⟩ ⟨q0, q1, q3, hav, hij, hk⟩
      simp only at q0 q1 q3 hav
      subst q0 q1
      show ok (f_Tn_takesWord_b24 N rec b0 b1 a3 u) _
      unfold f_Tn_takesWord_b24
      simp only [ok_gd, (show b1 < 5 by omega), true_and]
      refine ok_call (c_Slen (by omega) hl (by decide)) ?_
      rintro r2 u2 ⟨rfl, hr2⟩
      exact ok_cdt (by rw [ti_le, hr2, q3]; decide) (ok_ret.mpr ⟨4, by omega, hk, hav, hij, Or.inl ⟨rfl, rfl⟩⟩)
    · exact ⟨rfl, rfl, rfl, ⟨Fr.rf, hp⟩, hi, fun k hk => by omega⟩
  unfold f_Tn_takesWord f_Tn_takesWord_b0
  rw [ok_cd]
  refine ⟨fun e => ?_, fun e => ?_⟩ <;> rw [ti_eq, ha, ti_0] at e
  · obtain rfl : W = 0 := by omega
    exact L
  rw [ok_cd]
  refine ⟨fun e1 => ?_, fun e1 => ?_⟩ <;> rw [ti_eq, ha, ti_1] at e1
  · obtain rfl : W = 1 := by omega
    exact L
  · obtain rfl : W = 2 := by omega
    exact L
end CLC
