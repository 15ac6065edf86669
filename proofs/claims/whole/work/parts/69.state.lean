/-! ===== all payers' purses, THE TILL: one state, as the class' worlds and the model hold it =====  -/
abbrev PS : Type := (Nat → Nat → Int) × (Nat → Int) × (Nat → Nat)
section STATE
variable {N W c tp b p : Nat} {w u : gW} {kd v ob : Nat → Nat} {ro : Nat → Nat → Int} {L : List Cl} {A : PS} {price : Int} {y : List Nat} {a1 a2 a3 : Int32}
noncomputable def cS (L : List Cl) (kd v : Nat → Nat) (ro : Nat → Nat → Int) (A : PS) (p : Nat) (price : Int) : Option (List Nat) := chS L p (kd p) (v p) (A.2.2 p) (A.1 p) A.2.1 (ro p) price
def nS (A : PS) (p : Nat) (price : Int) (y : List Nat) : PS := (fun q s => if q = p then puF (A.1 p) y (bx A.2.1 y price) s else A.1 q s, tiF A.2.1 y (bx A.2.1 y price), fun q => if q = p then pdF (A.2.2 p) else A.2.2 q)
def rgS (A : PS) : Prop := (∀ p s, p < 4 → s < 6 → 0 ≤ A.1 p s ∧ A.1 p s ≤ 99) ∧ (∀ s, s < 6 → 0 ≤ A.2.1 s ∧ A.2.1 s ≤ 99) ∧ ∀ p, p < 4 → A.2.2 p ≤ 9999
theorem nS_rg (hr : rgS A) (hw : WF L) (hl : L.length ≤ 10) (hp : p < 4) (hy : cS L kd v ro A p price = some y) (h1 : 0 ≤ price) : rgS (nS A p price y) ∧ h2 y ∧ y.length = 6 ∧ (∀ s, s < 6 → 0 ≤ A.1 p s - gx y s) ∧ payA (A.1 p) A.2.1 price y ∧ ∀ s, s < 6 → 0 ≤ bx A.2.1 y price s ∧ bx A.2.1 y price s ≤ 101 := by
  obtain ⟨r1, r2, r3⟩ := hr
  obtain ⟨hy1, hy2⟩ := chS_in hy
  obtain ⟨y6, yy, yn⟩ := hLL_in hw hl (fun s hs => (r1 p s hp hs).1) hy1
  have hb : ∀ s, s < 6 → 0 ≤ bx A.2.1 y price s ∧ bx A.2.1 y price s ≤ 101 := fun s hs => bx_in r2 yy hy2.1 hs
  have hbt : ∀ s, s < 6 → bx A.2.1 y price s ≤ tx A.2.1 y s := fun s hs => by
    have h1 : ∀ s, s < 6 → 0 ≤ tx A.2.1 y s := fun s h => by have := (r2 s h); have := yy.g s; unfold tx; omega
    have := hy2.1
    exact (bck_in (t := tx A.2.1 y) (D := hsum y - price) h1 (by omega) hs).2.1
  refine ⟨⟨fun q s hq hs => ?_, fun s hs => ?_, fun q hq => ?_⟩, yy, y6, yn, hy2, hb⟩
  · simp only [nS]
    by_cases e : q = p
    · rw [if_pos e]
      have g1 := (hy2.2.2 s hs).2
      have g2 := hb s hs
      have g3 := yn s hs
      unfold puF; omega
    · rw [if_neg e]; exact r1 q s hq hs
  · simp only [nS]
    have g1 := (hy2.2.2 s hs).1
    have g2 := hbt s hs
    unfold tx at g1 g2
    unfold tiF; omega
  · simp only [nS]
    by_cases e : q = p
    · rw [if_pos e]; exact pdF_in
    · rw [if_neg e]; exact r3 q hq
def TW (w : gW) (tp : Nat) (L : List Cl) : Prop := (gI w tp 6).toInt = ((L.length : Nat) : Int) ∧ TC w tp 0 L ∧ WF L ∧ L.length ≤ 10 ∧ (gI w tp 1).toInt = mostF L ∧ ∀ s, s < 6 → (gI w (tp + 1) s).toInt = heftF L s
def PY (w : gW) (c : Nat) (kd v ob : Nat → Nat) : Prop := ∀ p, p < c → 182 ≤ ob p ∧ (sh w (ob p)).1 = kd p ∧ kd p < 7 ∧ (gI w (ob p) 0).toInt = (kd p : Int) ∧ (gI w (ob p) 1).toInt = (p : Int) ∧ (gI w (ob p) 2).toInt = (v p : Int) ∧ v p ≤ 9
def CA (w : gW) (W c tp : Nat) (kd v ob : Nat → Nat) (ro : Nat → Nat → Int) (L : List Cl) (A : PS) : Prop :=
  Lay w ∧ isW W ∧ isT tp ∧ c ≤ 4 ∧ gR w W 14 = some tp ∧ TW w tp L ∧ PY w c kd v ob ∧ (∀ p s, p < 4 → s < 6 → (gI w (W + 3 + p) s).toInt = A.1 p s) ∧ (∀ s, s < 6 → (gI w (W + 13) s).toInt = A.2.1 s) ∧ (∀ p, p < 4 → (gI w (W + 12) p).toInt = (A.2.2 p : Int)) ∧ rgS A ∧ (∀ p k, p < 4 → k < 4 → (gI w (W + 8 + p) k).toInt = ro p k ∧ 0 ≤ ro p k ∧ ro p k ≤ 5)
theorem CA.cp (h : CA w W c tp kd v ob ro L A) (hp : p < c) : CP w W (ob p) p (kd p) (v p) (A.2.2 p) tp (A.1 p) A.2.1 (ro p) L := by
  obtain ⟨h1, h2, h3, h4, h5, h6, h7, h8, h9, h10, ⟨r1, r2, r3⟩, h11⟩ := h
  have hp4 : p < 4 := by omega
  exact ⟨h1, h2, h3, hp4, h5, h6, h7 p hp, fun s hs => ⟨h8 p s hp4 hs, r1 p s hp4 hs⟩, fun s hs => ⟨h9 s hs, r2 s hs⟩, h10 p hp4, fun k hk => h11 p k hp4 hk⟩
theorem TW.fr {T : List Nat} {C : List (Nat × Nat)} (f : Fr T C w u) (h : ∀ d, d ≤ 6 → oP T C (tp + d)) (q : TW w tp L) : TW u tp L := by
  obtain ⟨g1, g2, g3, g4, g5, g6⟩ := q
  have h0 : oP T C tp := h 0 (by omega)
  exact ⟨by rw [f.i h0]; exact g1, TC.c (fun d k _ hd => f.i (h d hd)) L 0 g2, g3, g4, by rw [f.i h0]; exact g5, fun s hs => by rw [f.i (h 1 (by omega))]; exact g6 s hs⟩
theorem PY.fr {T : List Nat} {C : List (Nat × Nat)} (f : Fr T C w u) (h : ∀ a, 182 ≤ a → oP T C a) (q : PY w c kd v ob) : PY u c kd v ob := fun p hp => by
  obtain ⟨g1, g2, g3, g4, g5, g6, g7⟩ := q p hp
  exact ⟨g1, by rw [f.s]; exact g2, g3, by rw [f.i (h _ g1)]; exact g4, by rw [f.i (h _ g1)]; exact g5, by rw [f.i (h _ g1)]; exact g6, g7⟩
theorem nsc_T (hT : isT tp) : ∀ d, d ≤ 6 → nsc (tp + d) := fun d hd => by
  rcases hT with rfl | ⟨i, hi, rfl⟩ <;> unfold nsc <;> omega
theorem nsc_W (hW : isW W) : ∀ d, d ≤ 18 → nsc (W + d) := fun d hd => by
  rcases hW with rfl | rfl <;> unfold nsc <;> omega
theorem nsc_o {a : Nat} (h : 182 ≤ a) : nsc a := by unfold nsc; omega
theorem CA.sc (h : CA w W c tp kd v ob ro L A) (f : Fr ST SC w u) : CA u W c tp kd v ob ro L A := by
  obtain ⟨h1, hW, hT, h4, h5, h6, h7, h8, h9, h10, h11, h12⟩ := h
  have nW := nsc_W hW
  have nW0 : nsc W := nW 0 (by omega)
  refine ⟨f.lay h1, hW, hT, h4, by rw [f.r nW0.o]; exact h5, h6.fr f (fun d hd => (nsc_T hT d hd).o), h7.fr f (fun a ha => (nsc_o ha).o), fun p s hp hs => ?_, fun s hs => ?_, fun p hp => ?_, h11, fun p k hp hk => ?_⟩
  · have e : W + 3 + p = W + (3 + p) := by omega
    rw [e, f.i (nW _ (by omega)).o, ← e]; exact h8 p s hp hs
  · rw [f.i (nW _ (by omega)).o]; exact h9 s hs
  · rw [f.i (nW _ (by omega)).o]; exact h10 p hp
  · have e : W + 8 + p = W + (8 + p) := by omega
    rw [e, f.i (nW _ (by omega)).o, ← e]; exact h12 p k hp hk
/-- what the class has chosen, as it stands in the memory -/
def hasC (u : gW) (W o : Nat) (A : PS) (price : Int) (y : List Nat) : Prop := PR u W o ∧ HS u y ∧ ∀ s, s < 6 → (gI u 69 s).toInt = bx A.2.1 y price s
theorem CA.choose (hN : 1000 ≤ N) (h : CA w W c tp kd v ob ro L A) (hp : p < c) (h3 : a3.toInt = price) (hpr : 0 ≤ price ∧ price ≤ 500) :
    ok (f_Pm_choose N 66 W (ob p) a3 w) (fun r u => Fr ST SC w u ∧ CA u W c tp kd v ob ro L A ∧ ((r.toInt = 0 ∧ cS L kd v ro A p price = none) ∨ (r.toInt = 1 ∧ ∃ y, cS L kd v ro A p price = some y ∧ hasC u W (ob p) A price y))) := by
  refine (c_choose hN (h.cp hp) h3 hpr).mono ?_
  rintro r u ⟨f, hr⟩
  refine ⟨f, h.sc f, ?_⟩
  rcases hr with ⟨h1, h2⟩ | ⟨h1, y, h2, -, -, h5, h6, h7⟩
  · exact Or.inl ⟨h1, h2⟩
  · exact Or.inr ⟨h1, y, h2, h5, h6, h7⟩
theorem CA.settle (hN : 1000 ≤ N) (h : CA w W c tp kd v ob ro L A) (hp : p < c) (h1 : 0 ≤ price) (hy : cS L kd v ro A p price = some y) (hh : hasC w W (ob p) A price y) :
    ok (f_Pm_settle N 66 w) (fun _ u => Fr [W + 3 + p, W + 13] [(W + 12, p)] w u ∧ CA u W c tp kd v ob ro L (nS A p price y)) := by
  have h' := h
  obtain ⟨hL, hW, hT, h4, h5, h6, h7, h8, h9, h10, h11, h12⟩ := h
  have hp4 : p < 4 := by omega
  obtain ⟨n1, n2, n3, n4, n5, n6⟩ := nS_rg h11 h6.2.2.1 h6.2.2.2.1 hp4 hy h1
  refine (c_settle hN (h11.2.2 p hp4) (h'.cp hp) hh.1 hh.2.1 n2 (fun s hs => ⟨hh.2.2 s hs, (n6 s hs).1, by have := (n6 s hs).2; omega⟩)).mono ?_
  rintro - u ⟨f, g1, g2⟩
  refine ⟨f, f.lay hL, hW, hT, h4, ?_, h6.fr f (fun d hd => ?_), h7.fr f (fun a ha => ?_), fun q s hq hs => ?_, fun s hs => (g1 s hs).2, fun q hq => ?_, n1, fun q k hq hk => ?_⟩
  · rw [f.r ⟨by simp; omega, by simp⟩]; exact h5
  · constructor
    · simp only [List.mem_cons, List.not_mem_nil, or_false]; rcases hT with rfl | ⟨i, hi, rfl⟩ <;> rcases hW with rfl | rfl <;> omega
    · simp only [List.mem_cons, List.not_mem_nil, or_false]; rintro z rfl; rcases hT with rfl | ⟨i, hi, rfl⟩ <;> rcases hW with rfl | rfl <;> simp only [] <;> omega
  · constructor
    · simp only [List.mem_cons, List.not_mem_nil, or_false]; rcases hW with rfl | rfl <;> omega
    · simp only [List.mem_cons, List.not_mem_nil, or_false]; rintro z rfl; rcases hW with rfl | rfl <;> simp only [] <;> omega
  · simp only [nS]
    by_cases e : q = p
    · rw [if_pos e, e]; exact (g1 s hs).1
    · rw [if_neg e, f.i ⟨by simp; omega, by simp; omega⟩]; exact h8 q s hq hs
  · simp only [nS]
    by_cases e : q = p
    · rw [if_pos e, e]; exact g2
    · rw [if_neg e, f.c ⟨by simp; omega, by simp; omega⟩]; exact h10 q hq
  · rw [f.i ⟨by simp; omega, by simp; omega⟩]; exact h12 q k hq hk
def MA (w : gW) (c b : Nat) (kd v : Nat → Nat) (ro : Nat → Nat → Int) (L : List Cl) (A : PS) : Prop :=
  Lay w ∧ MV w b L ∧ wrM w ∧ c ≤ 4 ∧ (∀ p, p < c → (gI w 135 p).toInt = (kd p : Int) ∧ kd p < 7 ∧ (gI w 136 p).toInt = (v p : Int) ∧ v p ≤ 9) ∧ (∀ p s, p < 4 → s < 6 → (gI w 139 (6 * p + s)).toInt = A.1 p s) ∧ (∀ s, s < 6 → (gI w 140 s).toInt = A.2.1 s) ∧ (∀ p, p < 4 → (gI w 137 p).toInt = (A.2.2 p : Int)) ∧ rgS A ∧ (∀ p k, p < 4 → k < 4 → (gI w 138 (4 * p + k)).toInt = ro p k ∧ 0 ≤ ro p k ∧ ro p k ≤ 5)
theorem MA.mp (h : MA w c b kd v ro L A) (hp : p < c) : MP w p (kd p) (v p) (A.2.2 p) b (A.1 p) A.2.1 (ro p) L := by
  obtain ⟨h1, h2, h3, h4, h5, h8, h9, h10, ⟨r1, r2, r3⟩, h11⟩ := h
  have hp4 : p < 4 := by omega
  obtain ⟨g1, g2, g3, g4⟩ := h5 p hp
  exact ⟨h1, h2, h3, fun q hq => by rw [h10 q hq]; omega, hp4, ⟨g1, g2, g3, g4, h10 p hp4⟩, fun s hs => ⟨h8 p s hp4 hs, r1 p s hp4 hs⟩, fun s hs => ⟨h9 s hs, r2 s hs⟩, fun k hk => h11 p k hp4 hk⟩
theorem MA.sc (h : MA w c b kd v ro L A) (f : Fr ST SC w u) : MA u c b kd v ro L A := by
  obtain ⟨h1, h2, h3, h4, h5, h8, h9, h10, h11, h12⟩ := h
  have n : ∀ a, 134 ≤ a ∧ a ≤ 149 → oP ST SC a := fun a h => (nsc_m h).o
  refine ⟨f.lay h1, h2.fr f (fun d h h' => n d (by omega)) (by decide), h3.c f (n _ (by omega)), h4, fun p hp => ?_, fun p s hp hs => ?_, fun s hs => ?_, fun p hp => ?_, h11, fun p k hp hk => ?_⟩
  · rw [f.i (n _ (by omega)), f.i (n _ (by omega))]; exact h5 p hp
  · rw [f.i (n _ (by omega))]; exact h8 p s hp hs
  · rw [f.i (n _ (by omega))]; exact h9 s hs
  · rw [f.i (n _ (by omega))]; exact h10 p hp
  · rw [f.i (n _ (by omega))]; exact h12 p k hp hk
theorem MA.choose (hN : 1000 ≤ N) (h : MA w c b kd v ro L A) (hp : p < c) (h1 : a1.toInt = (p : Int)) (h3 : a2.toInt = price) (hpr : 0 ≤ price ∧ price ≤ 500) :
    ok (f_M_chooses N 133 a1 a2 w) (fun r u => Fr MT SC w u ∧ ((r.toInt = 0 ∧ cS L kd v ro A p price = none) ∨ (r.toInt = 1 ∧ ∃ y, cS L kd v ro A p price = some y ∧ (gI u 133 34).toInt = hsum y ∧ ∀ s, s < 6 → (gI u 155 s).toInt = gx y s ∧ (gI u 156 s).toInt = bx A.2.1 y price s))) := by
  have h0 := h
  obtain ⟨-, h2, -, h4, -, -, -, -, ⟨r1, r2, r3⟩, h11⟩ := h
  have hp4 : p < 4 := by omega
  have e := ch_eq (p := p) (kd := kd p) (v := v p) (pd := A.2.2 p) (pu := A.1 p) (ti := A.2.1) (ro := ro p) (price := price) h2.2.2.1 h2.1 (fun s hs => (r1 p s hp4 hs).1) (fun k hk => (h11 p k hp4 hk).2) hpr.1
  refine (c_mchoose hN (h0.mp hp) h1 h3 hpr rfl).mono ?_
  rintro r u ⟨f, hr⟩
  refine ⟨f, ?_⟩
  rw [e] at hr
  rcases hr with ⟨h1, h2⟩ | ⟨h1, y, h2, -, -, h5, h6⟩
  · exact Or.inl ⟨h1, h2⟩
  · exact Or.inr ⟨h1, y, h2, h5, h6⟩
end STATE
