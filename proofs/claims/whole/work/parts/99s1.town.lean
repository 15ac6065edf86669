/-! ===== town =====  -/
section TOWN
variable {N n q f g : Nat} {w u z v : gW} {t : Nat → Int} {b : Bool} {x : Cl} {L R : List Cl}
theorem MC.bd {B : Nat} : ∀ (L : List Cl) (c : Nat), (∀ d j, 143 ≤ d → d ≤ 146 → c ≤ j → j < c + L.length → gI u d j = gI w d j) → (∀ j, j < B → gI u 147 j = gI w 147 j) → MBd w B c L → MC w c L → MC u c L ∧ MBd u B c L := by
  intro L
  induction L with
  | nil => intro c _ _ _ _; exact ⟨trivial, trivial⟩
  | cons x L ih =>
    intro c h h' hb q
    simp only [List.length_cons] at h
    obtain ⟨q1, q2, q3, q4⟩ := q
    obtain ⟨i1, i2⟩ := ih (c + 1) (fun d j h1 h2 h3 h4 => h d j h1 h2 (by omega) (by omega)) h' hb.2 q4
    refine ⟨⟨by rw [h _ _ (by omega) (by omega) (by omega) (by omega)]; exact q1, by rw [h _ _ (by omega) (by omega) (by omega) (by omega)]; exact q2, fun hx => ?_, i1⟩, fun hx => by rw [h _ _ (by omega) (by omega) (by omega) (by omega)]; exact hb.1 hx, i2⟩
    obtain ⟨a, a1, a2, a3, a4⟩ := q3 hx
    have hbx := hb.1 hx
    rw [a2] at hbx
    exact ⟨a, by rw [h _ _ (by omega) (by omega) (by omega) (by omega)]; exact a1, by rw [h _ _ (by omega) (by omega) (by omega) (by omega)]; exact a2, a3, rgn_c _ _ (fun k _ hk => h' k (by omega)) a4⟩
theorem KC.mbd {B : Nat} {gg : Int → Int} : ∀ (L : List Cl) (c : Nat), KC w 143 144 145 146 147 gg B c L → MBd w B c L := by
  intro L
  induction L with
  | nil => intro c _; trivial
  | cons x L ih =>
    intro c q
    refine ⟨fun hx => ?_, ih (c + 1) q.2⟩
    obtain ⟨a, a1, a2, a3, a4⟩ := q.1.2.2 hx
    rw [a2]; omega
set_option maxRecDepth 20000 in
theorem lay_72 (h : Lay w) (hf : f < 6) : gR w 72 f = some (85 + 8 * f) := by
  rcases in6 hf with rfl | rfl | rfl | rfl | rfl | rfl
  · exact h.2.1 (72, 0, 85) (by decide)
  · exact h.2.1 (72, 1, 93) (by decide)
  · exact h.2.1 (72, 2, 101) (by decide)
  · exact h.2.1 (72, 3, 109) (by decide)
  · exact h.2.1 (72, 4, 117) (by decide)
  · exact h.2.1 (72, 5, 125) (by decide)
set_option maxRecDepth 20000 in
theorem lay_TO (h : Lay w) : gR w 0 6 = some 72 ∧ sh w 72 = (55, 6) ∧ gR w 0 8 = some 73 ∧ sh w 0 = (11, 0) ∧ gR w 0 1 = some 9 ∧ sh w 9 = (9, 0) ∧ sh w 133 = (12, 0) := ⟨h.2.1 (0, 6, 72) (by decide), h.1 72 (by decide), h.2.1 (0, 8, 73) (by decide), h.1 0 (by decide), h.2.1 (0, 1, 9) (by decide), h.1 9 (by decide), h.1 133 (by decide)⟩
theorem TF.big (hf : f < 6) (h : TF (85 + 8 * f) w u) : Fr TBg CBg w u := by
  refine h.up (fun a ha => ?_) (fun c hc => by cases hc)
  rcases in6 hf with rfl | rfl | rfl | rfl | rfl | rfl <;> (simp only [List.mem_cons, List.not_mem_nil, or_false] at ha ⊢; omega)
abbrev C2 : List (Nat × Nat) := [(0, 7), (0, 9), (9, 14)]
abbrev C4 : List (Nat × Nat) := [(133, 8), (133, 9), (133, 10)]
/-- the older towns stay -/
theorem old_towns (h : SimB w) (hf : f < 6) (hc : (gI w 133 8).toInt = (f : Int)) (f1 : TF (85 + 8 * f) w u) (f2 : Fr [] C2 u v) (mg : MG v z f) {y : gW} (f4 : Fr [] C4 z y) : TW y 1 [] ∧ ∀ g, g < f → ∃ L, TW y (85 + 8 * g) L ∧ MT1 y g L := by
  have tw : ∀ tp L, (tp = 1 ∨ ∃ g, g < f ∧ tp = 85 + 8 * g) → TW w tp L → TW y tp L := fun tp L ht q => by
    refine (((q.fr f1 (fun d hd => ⟨?_, by simp⟩)).fr f2 (fun d hd => ⟨by simp, ?_⟩)).fr mg.1 (fun d hd => ⟨?_, ?_⟩)).fr f4 (fun d hd => ⟨by simp, ?_⟩)
    · simp only [List.mem_cons, List.not_mem_nil, or_false]; rcases ht with rfl | ⟨g, hg, rfl⟩ <;> omega
    · intro c hc; simp only [List.mem_cons, List.not_mem_nil, or_false] at hc; rcases ht with rfl | ⟨g, hg, rfl⟩ <;> rcases hc with rfl | rfl | rfl <;> simp only [] <;> omega
    · simp only [List.mem_cons, List.not_mem_nil, or_false]; rcases ht with rfl | ⟨g, hg, rfl⟩ <;> omega
    · intro c hc; simp only [List.mem_cons, List.not_mem_nil, or_false] at hc; rcases ht with rfl | ⟨g, hg, rfl⟩ <;> rcases hc with rfl | rfl | rfl | rfl | rfl <;> simp only [] <;> omega
    · intro c hc; simp only [List.mem_cons, List.not_mem_nil, or_false] at hc; rcases ht with rfl | ⟨g, hg, rfl⟩ <;> rcases hc with rfl | rfl | rfl <;> simp only [] <;> omega
  refine ⟨tw 1 [] (Or.inl rfl) h.1, fun g hg => ?_⟩
  obtain ⟨L, g1, g2, g3, g4⟩ := h.2 g (by omega) (by omega)
  have hl := g1.2.2.2.1
  have e : ∀ d j, 142 ≤ d → d ≤ 147 → gI v d j = gI w d j := fun d j h1 h2 => by
    rw [f2.i ⟨by simp, by simp; omega⟩, f1.i ⟨by simp; omega, by simp⟩]
  have e4 : ∀ d j, 142 ≤ d → d ≤ 147 → gI y d j = gI z d j := fun d j h1 h2 => f4.i ⟨by simp, by simp; omega⟩
  obtain ⟨m1, m2⟩ := MC.bd (u := y) (B := 100 * g + 100) L (10 * g) (fun d j h1 h2 h3 h4 => by rw [e4 _ _ (by omega) (by omega), mg.2.1 d j h1 h2 (by omega), e _ _ (by omega) (by omega)]) (fun j hj => by rw [e4 _ _ (by decide) (by decide), mg.2.2.1 j (by omega), e _ _ (by decide) (by decide)]) g4 g2
  exact ⟨L, tw _ L (Or.inr ⟨g, hg, rfl⟩) g1, m1, by rw [e4 _ _ (by decide) (by decide), mg.2.2.2 g (by omega), e _ _ (by decide) (by decide)]; exact g3, m2⟩
set_option maxRecDepth 20000 in
theorem ref914 : ∀ t ∈ refT, ¬ (t.1 = 9 ∧ t.2.1 = 14) := by decide
set_option maxHeartbeats 2000000 in
theorem p_town (hN : 1000 ≤ N) (h : Sim w) : ok (f_X_town N 0 w) (fun r w1 => ok (f_M_town N 133 w1) (fun r' w2 => r = r' ∧ Sim w2)) := by
  have hx := lay_TO h.1
  have htw : gI w 0 7 = gI w 133 8 := h.2.1.tws
  have htr : 0 ≤ (gI w 133 8).toInt ∧ (gI w 133 8).toInt ≤ 6 := h.2.1.twsr
  have hfe : gI w 0 9 = gI w 133 10 := h.2.1.fed
  have hfr : 0 ≤ (gI w 133 10).toInt ∧ (gI w 133 10).toInt ≤ 100 := h.2.1.fedr
  unfold f_X_town f_X_town_b0
  simp only [ok_gd, ok_bd, true_and, hx]
  rw [ok_cd]
  refine ⟨fun c6 => ?_, fun c6 => ?_⟩ <;> rw [ti_lt, htw, ti_6] at c6
  rotate_left 1
  · refine ok_ret.mpr ?_
    unfold f_M_town f_M_town_b0
    simp only [ok_gd, ok_bd, true_and, hx]
    exact ok_cdt (by rw [ti_eq, ti_6]; omega) (ok_ret.mpr ⟨rfl, h⟩)
  obtain ⟨f, hf⟩ : ∃ f : Nat, (gI w 133 8).toInt = (f : Int) := ⟨(gI w 133 8).toInt.toNat, by omega⟩
  have hf6 : f < 6 := by omega
  obtain ⟨n, hn⟩ : ∃ n : Nat, (gI w 133 10).toInt = (n : Int) := ⟨(gI w 133 10).toInt.toNat, by omega⟩
  have hn100 : n ≤ 100 := by omega
  have h07 : (gI w 0 7).toInt = (f : Int) := by rw [htw]; exact hf
  have h09 : (gI w 0 9).toInt = (n : Int) := by rw [hfe]; exact hn
  have n1 := nat_of h07
  have g1 := ix_of (m := 6) h07 hf6
  rw [n1] at g1
  have hT : isT (85 + 8 * f) := Or.inr ⟨f, hf6, rfl⟩
  have t0 := (lay_T h.1 hT).1
  have htx : ∀ j, j < n → (gI w 73 j).toInt = (gI w 141 j).toInt ∧ 0 ≤ (gI w 141 j).toInt ∧ (gI w 141 j).toInt ≤ 127 := fun j hj => by
    have h1 := h.2.1.txt j (by omega)
    have h2 := h.2.1.txtr j (by omega)
    exact ⟨by rw [h1], h2⟩
  simp only [ok_rr, hx]
  refine ⟨_, rfl, ?_⟩
  simp only [ok_gd, ok_bd, ok_rr, true_and, hx, n1, g1, not_false_eq_true]
  refine ⟨_, lay_72 h.1 hf6, _, rfl, ?_⟩
  simp only [ok_gd, ok_bd, true_and, t0]
  refine ok_call (c_faultOf (t := fun j => (gI w 141 j).toInt) hN h.1 hf6 rfl h09 hn100 htx) ?_
  rintro r1 u ⟨f1, hr1⟩
  have hLu := f1.lay h.1
  have hxu := lay_TO hLu
  -- the model, on what the class left
  have hltr : ltr w := h.2.1.let
  have mod : ∀ (v : gW) (b : Bool) (q : Nat) (L : List Cl) (Q : Int32 → gW → Prop), Fr [] C2 u v → TX (fun j => (gI w 141 j).toInt) n L b q → (∀ z r4, MGx v f b q L r4 z → (b = false → (gI z 133 11).toInt = (q : Int) → Q (-10 - gI z 133 11) (sI z 133 10 0)) ∧ (b = true → Q (gI v 133 8) (sI (sI (sI z 133 10 0) 133 9 (gI v 133 8)) 133 8 (gI v 133 8 + 1)))) → ok (f_M_town N 133 v) Q := by
    intro v b q L Q f2 htX k1
    have hLv := f2.lay hLu
    have hxv := lay_TO hLv
    have e : ∀ j, gI v 133 j = gI w 133 j := fun j => by rw [f2.i ⟨by simp, by simp⟩, f1.i ⟨by simp; omega, by simp⟩]
    have ea : ∀ j, gI v 141 j = gI w 141 j := fun j => by rw [f2.i ⟨by simp, by simp⟩, f1.i ⟨by simp; omega, by simp⟩]
    have hv8 : (gI v 133 8).toInt = (f : Int) := by rw [e]; exact hf
    have hltv : ltr v := ltr.fr f2 ⟨by simp, by simp⟩ (ltr.fr f1 ⟨by simp; omega, by simp⟩ hltr)
    unfold f_M_town f_M_town_b0
    simp only [ok_gd, ok_bd, true_and, hxv]
    refine ok_cdf (by rw [ti_eq, hv8, ti_6]; omega) ?_
    rw [ok_bd]
    refine ok_call (m_goesText (b := b) (q := q) (t := fun j => (gI w 141 j).toInt) hN hf6 hv8 hltv hLv hn100 (by rw [e]; exact hn) (fun j hj => ⟨by rw [ea], (htx j hj).2⟩) htX) ?_
    rintro r4 z hm
    have hLz := hm.1.1.lay hLv
    have hxz := lay_TO hLz
    obtain ⟨k2, k3⟩ := k1 z r4 hm
    have S1 : ∀ (u : gW) (a k : Nat) (y : Int32) (b : Nat), sh (sI u a k y) b = sh u b := fun _ _ _ _ _ => rfl
    have ez8 : gI z 133 8 = gI v 133 8 := hm.1.1.c ⟨by simp, by simp⟩
    simp only [ok_gd, ok_bd, true_and, hxz]
    rcases hm.2 with ⟨rfl, rfl, -⟩ | ⟨rfl, rfl, hq⟩
    · refine ok_cdf (by decide) ?_
      have x8 : gI (sI z 133 10 0) 133 8 = gI v 133 8 := by rw [gI_nk (by decide)]; exact ez8
      have x8' : ∀ y, gI (sI (sI z 133 10 0) 133 9 y) 133 8 = gI v 133 8 := fun y => by rw [gI_nk (by decide)]; exact x8
      have x9 : ∀ y y' : Int32, gI (sI (sI (sI z 133 10 0) 133 9 y) 133 8 y') 133 9 = y := fun y y' => by rw [gI_nk (by decide), gI_eq]
      simp only [ok_gd, ok_bd, true_and, hxz, S1, x8, x8', x9]
      exact ok_ret.mpr (k3 rfl)
    · refine ok_cdt rfl ?_
      have x11 : gI (sI z 133 10 0) 133 11 = gI z 133 11 := gI_nk (by decide)
      simp only [ok_gd, ok_bd, true_and, hxz, S1, x11]
      exact ok_ret.mpr (k2 rfl hq)
  have S1 : ∀ (u : gW) (a k : Nat) (y : Int32) (b : Nat), sh (sI u a k y) b = sh u b := fun _ _ _ _ _ => rfl
  have S2 : ∀ (u : gW) (a k : Nat) (y : Option Nat) (b : Nat), sh (sR u a k y) b = sh u b := fun _ _ _ _ _ => rfl
  have R1 : ∀ (u : gW) (a k : Nat) (y : Int32) (b j : Nat), gR (sI u a k y) b j = gR u b j := fun _ _ _ _ _ _ => rfl
  have eu : ∀ a j, a < 85 → gI u a j = gI w a j := fun a j ha => f1.i ⟨by simp; omega, by simp⟩
  have eru : ∀ a j, a < 85 → gR u a j = gR w a j := fun a j ha => f1.r ⟨by simp; omega, by simp⟩
  simp only [ok_gd, ok_bd, true_and, hxu]
  rcases hr1 with ⟨hr1, x, R, htX, hTW⟩ | ⟨q, L, hr1, hq, htX⟩
  · refine ok_cdt (by rw [ti_eq, hr1]; rfl) ?_
    simp only [ok_gd, ok_rr, true_and, hxu, S1, R1]
    refine ⟨_, rfl, ?_⟩
    have x7 : gI (sR (sI u 0 9 0) 9 14 (some (85 + 8 * f))) 0 7 = gI w 0 7 := by
      show gI (sI u 0 9 0) 0 7 = _
      rw [gI_nk (by decide)]; exact eu 0 7 (by decide)
    simp only [ok_gd, ok_bd, true_and, hxu, S1, S2, x7, gI_eq]
    have hp1 : (gI w 0 7 + 1).toInt = ((f + 1 : Nat) : Int) := ti_p1 h07 (by omega)
    have n9 : ∀ t ∈ refT, ¬ (t.1 = 9 ∧ t.2.1 = 14) := ref914
    have F2 : Fr [] C2 u (sI (sR (sI u 0 9 0) 9 14 (some (85 + 8 * f))) 0 7 (gI w 0 7 + 1)) := Fr_sI (Fr_sR (Fr_sI Fr.rf (by simp)) (by simp) n9) (by simp)
    have v07 : (gI (sI (sR (sI u 0 9 0) 9 14 (some (85 + 8 * f))) 0 7 (gI w 0 7 + 1)) 0 7).toInt = ((f + 1 : Nat) : Int) := by rw [gI_eq]; exact hp1
    have v09 : gI (sI (sR (sI u 0 9 0) 9 14 (some (85 + 8 * f))) 0 7 (gI w 0 7 + 1)) 0 9 = 0 := by
      rw [gI_nk (by decide)]
      show gI (sI u 0 9 0) 0 9 = _
      rw [gI_eq]
    have v914 : gR (sI (sR (sI u 0 9 0) 9 14 (some (85 + 8 * f))) 0 7 (gI w 0 7 + 1)) 9 14 = some (85 + 8 * f) := by
      show gR (sR (sI u 0 9 0) 9 14 (some (85 + 8 * f))) 9 14 = _
      rw [gR_sR, if_pos ⟨rfl, rfl⟩]
    generalize sI (sR (sI u 0 9 0) 9 14 (some (85 + 8 * f))) 0 7 (gI w 0 7 + 1) = v at F2 v07 v09 v914
    refine ok_ret.mpr (mod v true n (x :: R) _ F2 htX (fun z r4 hm => ⟨fun hb => (by cases hb), fun _ => ?_⟩))
    obtain ⟨mg, hm⟩ := hm
    rcases hm with ⟨-, -, z142, zkc⟩ | ⟨hb, -⟩
    rotate_left 1
    · cases hb
    have ev8 : gI v 133 8 = gI w 133 8 := by rw [F2.i ⟨by simp, by simp⟩, f1.i ⟨by simp; omega, by simp⟩]
    rw [ev8]
    refine ⟨by rw [ti_eq, ti_sub1 (by omega), hp1, hf]; omega, ?_⟩
    have F4 : Fr [] C4 z (sI (sI (sI z 133 10 0) 133 9 (gI w 133 8)) 133 8 (gI w 133 8 + 1)) := Fr_sI (Fr_sI (Fr_sI Fr.rf (by simp)) (by simp)) (by simp)
    have y8 : (gI (sI (sI (sI z 133 10 0) 133 9 (gI w 133 8)) 133 8 (gI w 133 8 + 1)) 133 8).toInt = ((f + 1 : Nat) : Int) := by rw [gI_eq]; exact ti_p1 hf (by omega)
    have y9 : gI (sI (sI (sI z 133 10 0) 133 9 (gI w 133 8)) 133 8 (gI w 133 8 + 1)) 133 9 = gI w 133 8 := by rw [gI_nk (by decide), gI_eq]
    have y10 : gI (sI (sI (sI z 133 10 0) 133 9 (gI w 133 8)) 133 8 (gI w 133 8 + 1)) 133 10 = 0 := by rw [gI_nk (by decide), gI_nk (by decide), gI_eq]
    generalize sI (sI (sI z 133 10 0) 133 9 (gI w 133 8)) 133 8 (gI w 133 8 + 1) = y at F4 y8 y9 y10
    have G : Fr TBg CBg w y := (((TF.big hf6 f1).tr (F2.up (by simp) (by simp))).tr (mg.1.up (by simp) (by simp))).tr (F4.up (by simp) (by simp))
    have e0 : ∀ j, gI y 0 j = gI v 0 j := fun j => by rw [F4.i ⟨by simp, by simp⟩, mg.1.i ⟨by simp, by simp⟩]
    obtain ⟨o1, o2⟩ := old_towns h.2.2 hf6 hf f1 F2 mg F4
    refine h.u_town G ?_ ?_ ?_ ?_ ?_ ?_ ?_ ?_ ⟨o1, fun g hg hlt => ?_⟩
    · unfold S_atwn twn
      rw [F4.r ⟨by simp, by simp⟩, mg.1.r ⟨by simp, by simp⟩, v914, y9]
      unfold tpl
      rw [if_neg (by rw [ti_lt, hf, ti_0]; omega), nat_of hf]
    · unfold S_athe rgC; rw [y9, hf]; omega
    · unfold S_athel ltC; rw [y9, y8, hf]; omega
    · unfold S_sthel ltC
      have := h.2.1.sthel
      unfold S_sthel ltC at this
      rw [y8, G.c ⟨by simp, by simp⟩]; omega
    · unfold S_tws eqC; rw [ti_eq, e0, v07, y8]
    · unfold S_twsr rgC; rw [y8]; omega
    · unfold S_fed eqC; rw [e0, v09, y10]
    · unfold S_fedr rgC; rw [y10, ti_0]; omega
    · rw [y8] at hlt
      by_cases e : g = f
      · subst e
        have e4 : ∀ d j, 142 ≤ d → d ≤ 147 → gI y d j = gI z d j := fun d j h1 h2 => F4.i ⟨by simp, by simp; omega⟩
        have zkc2 : KC y 143 144 145 146 147 (fun z => z) (100 * g + 100) (10 * g) (x :: R) := KC.c (Nat.le_refl _) _ _ (fun d j hd _ _ => e4 _ _ (by omega) (by omega)) (fun j _ => e4 _ _ (by decide) (by decide)) zkc
        refine ⟨x :: R, ?_, zkc2.mc (by omega), by rw [e4 _ _ (by decide) (by decide)]; exact z142, zkc2.mbd⟩
        refine ((hTW.fr F2 (fun d hd => ⟨by simp, by simp; omega⟩)).fr mg.1 (fun d hd => ⟨by simp; omega, by simp; omega⟩)).fr F4 (fun d hd => ⟨by simp, by simp; omega⟩)
      · exact o2 g (by omega)
  · refine ok_cdf (by rw [ti_eq, hr1]; show ¬ (q : Int) = -1; omega) ?_
    rw [ok_bd]
    have F2 : Fr [] C2 u (sI u 0 9 0) := Fr_sI Fr.rf (by simp)
    have v09 : gI (sI u 0 9 0) 0 9 = 0 := gI_eq
    have v07 : gI (sI u 0 9 0) 0 7 = gI w 0 7 := by rw [gI_nk (by decide)]; exact eu 0 7 (by decide)
    have v914 : gR (sI u 0 9 0) 9 14 = gR w 9 14 := by
      show gR u 9 14 = _
      exact eru 9 14 (by decide)
    generalize sI u 0 9 0 = v at F2 v09 v07 v914
    refine ok_ret.mpr (mod v false q L _ F2 htX (fun z r4 hm => ⟨fun _ hq11 => ?_, fun hb => by cases hb⟩))
    have e10 : (-10 : Int32).toInt = -10 := rfl
    refine ⟨by rw [ti_eq, ti_sub, ti_sub] <;> rw [e10] <;> first | rw [hr1, hq11] | (rw [hq11]; omega) | (rw [hr1]; omega), ?_⟩
    obtain ⟨mg, -⟩ := hm
    have F4 : Fr [] C4 z (sI z 133 10 0) := Fr_sI Fr.rf (by simp)
    have y10 : gI (sI z 133 10 0) 133 10 = 0 := gI_eq
    have yo : ∀ j, j = 8 ∨ j = 9 → gI (sI z 133 10 0) 133 j = gI w 133 j := fun j hj => by
      rw [gI_nk (by omega), mg.1.c ⟨by simp, by simp; omega⟩, F2.i ⟨by simp, by simp⟩, f1.i ⟨by simp; omega, by simp⟩]
    generalize sI z 133 10 0 = y at F4 y10 yo
    have G : Fr TBg CBg w y := (((TF.big hf6 f1).tr (F2.up (by simp) (by simp))).tr (mg.1.up (by simp) (by simp))).tr (F4.up (by simp) (by simp))
    have e0 : ∀ j, gI y 0 j = gI v 0 j := fun j => by rw [F4.i ⟨by simp, by simp⟩, mg.1.i ⟨by simp, by simp⟩]
    have y8 := yo 8 (Or.inl rfl)
    have y9 := yo 9 (Or.inr rfl)
    obtain ⟨o1, o2⟩ := old_towns h.2.2 hf6 hf f1 F2 mg F4
    refine h.u_town G ?_ ?_ ?_ ?_ ?_ ?_ ?_ ?_ ⟨o1, fun g hg hlt => ?_⟩
    · unfold S_atwn twn
      rw [F4.r ⟨by simp, by simp⟩, mg.1.r ⟨by simp, by simp⟩, v914, y9]
      exact h.2.1.atwn
    · unfold S_athe rgC; rw [y9]; exact h.2.1.athe
    · unfold S_athel ltC; rw [y9, y8]; exact h.2.1.athel
    · unfold S_sthel ltC; rw [y8, G.c ⟨by simp, by simp⟩]; exact h.2.1.sthel
    · unfold S_tws eqC; rw [e0, v07, y8]; exact htw
    · unfold S_twsr rgC; rw [y8]; exact htr
    · unfold S_fed eqC; rw [e0, v09, y10]
    · unfold S_fedr rgC; rw [y10, ti_0]; omega
    · rw [y8, hf] at hlt
      exact o2 g (by omega)
end TOWN
