/-! ===== the whole relation; how a call is stepped ===== -/
/-- a place, a cell that the towns of class and model don't stand at -/
def okB (a : Nat) : Bool := decide (a ≠ 133 ∧ ¬ (1 ≤ a ∧ a ≤ 7) ∧ ¬ (85 ≤ a ∧ a ≤ 132 ∧ a % 8 ≠ 4) ∧ ¬ (142 ≤ a ∧ a ≤ 147))
def okC (c : Nat × Nat) : Bool := okB c.1 || (decide (c.1 = 133) && decide (c.2 ≠ 8))
/-- what is put out ends below B -/
def MBd (w : gW) (B : Nat) : Nat → List Cl → Prop
  | _, [] => True
  | c, x :: L => (x.1 ≠ 2 → (gI w 146 c).toInt ≤ (B : Int)) ∧ MBd w B (c + 1) L
theorem MBd.c {w u : gW} {B : Nat} (h : ∀ k, gI u 146 k = gI w 146 k) : ∀ (L : List Cl) (c : Nat), MBd w B c L → MBd u B c L := by
  intro L
  induction L with
  | nil => intro c _; trivial
  | cons x L ih =>
    intro c q
    exact ⟨fun hx => by rw [h]; exact q.1 hx, ih (c + 1) q.2⟩
def MT1 (w : gW) (f : Nat) (L : List Cl) : Prop := MC w (10 * f) L ∧ (gI w 142 f).toInt = (L.length : Int) ∧ MBd w (100 * f + 100) (10 * f) L
def SimB (w : gW) : Prop := TW w 1 [] ∧ ∀ f : Nat, f < 6 → (f : Int) < (gI w 133 8).toInt → ∃ L, TW w (85 + 8 * f) L ∧ MT1 w f L
theorem okB_o {T : List Nat} {C : List (Nat × Nat)} (hT : ∀ a ∈ T, okB a = true) (hC : ∀ c ∈ C, okC c = true) {a : Nat} (h : okB a = false) (h' : a ≠ 133) : oP T C a := by
  refine ⟨fun z => (by rw [hT a z] at h; cases h), fun c hc e => ?_⟩
  have := hC c hc
  unfold okC at this
  rw [e, h] at this
  simp [h'] at this
theorem SimB.fr {w u : gW} {T : List Nat} {C : List (Nat × Nat)} (h : Fr T C w u) (hT : ∀ a ∈ T, okB a = true) (hC : ∀ c ∈ C, okC c = true) (q : SimB w) : SimB u := by
  have k : ∀ a, okB a = false → a ≠ 133 → oP T C a := fun a g g' => okB_o hT hC g g'
  have h8 : gI u 133 8 = gI w 133 8 := by
    refine h.c ⟨fun z => ?_, fun z => ?_⟩
    · have := hT _ z; revert this; decide
    · have := hC _ z; revert this; decide
  have nT : ∀ tp, isT tp → ∀ d, d ≤ 6 → oP T C (tp + d) := fun tp ht d hd => by
    rcases ht with rfl | ⟨i, hi, rfl⟩
    · exact k _ (by unfold okB; rw [decide_eq_false_iff_not]; omega) (by omega)
    · exact k _ (by unfold okB; rw [decide_eq_false_iff_not]; omega) (by omega)
  refine ⟨q.1.fr h (nT 1 (Or.inl rfl)), fun f hf hlt => ?_⟩
  rw [h8] at hlt
  obtain ⟨L, g1, g2, g3, g4⟩ := q.2 f hf hlt
  have n4 : ∀ d, 142 ≤ d → d ≤ 147 → oP T C d := fun d h1 h2 => k d (by unfold okB; rw [decide_eq_false_iff_not]; omega) (by omega)
  exact ⟨L, g1.fr h (nT _ (Or.inr ⟨f, hf, rfl⟩)), MC.c (fun d j h1 h2 => h.i (n4 d (by omega) h2)) _ _ g2, by rw [h.i (n4 142 (by omega) (by omega))]; exact g3, MBd.c (fun k => h.i (n4 146 (by omega) (by omega))) L _ g4⟩
def Sim (w : gW) : Prop := Lay w ∧ SimA w ∧ SimB w
