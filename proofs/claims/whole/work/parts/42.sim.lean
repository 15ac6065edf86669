/-! ===== class and model hold the same: the forms of a relation, each with its places ===== -/
def eqA (a b n : Nat) (w : gW) : Prop := ∀ k, k < n → gI w a k = gI w b k
def eqC (a i b j : Nat) (w : gW) : Prop := gI w a i = gI w b j
def rgA (a n : Nat) (lo hi : Int) (w : gW) : Prop := ∀ k, k < n → lo ≤ (gI w a k).toInt ∧ (gI w a k).toInt ≤ hi
def rgC (a i : Nat) (lo hi : Int) (w : gW) : Prop := lo ≤ (gI w a i).toInt ∧ (gI w a i).toInt ≤ hi
def ltC (a i b j : Nat) (w : gW) : Prop := (gI w a i).toInt < (gI w b j).toInt
def ltA (a n b j : Nat) (e f : Nat) (w : gW) : Prop := ∀ k : Nat, k < n → (k : Int) < (gI w e f).toInt → (gI w a k).toInt < (gI w b j).toInt
def grd (b m n : Nat) (w : gW) : Prop := ∀ p k, p < 4 → k < n → gI w (b + p) k = gI w m (n * p + k)
def zer (a i m n : Nat) (w : gW) : Prop := ∀ p k : Nat, p < 4 → k < n → (gI w a i).toInt ≤ (p : Int) → gI w m (n * p + k) = 0
def pyr (a c i mk mv : Nat) (w : gW) : Prop := ∀ p : Nat, p < 4 → (p : Int) < (gI w c i).toInt → ∃ o, gR w a p = some o ∧ 182 ≤ o ∧ o < nx w ∧ (sh w o).1 < 7 ∧ ((sh w o).1 : Int) = (gI w mk p).toInt ∧ gI w o 0 = gI w mk p ∧ gI w o 1 = J (p : Int) ∧ gI w o 2 = gI w mv p
def pyo (a : Nat) (w : gW) : Prop := ∀ p o, p < 4 → gR w a p = some o → 182 ≤ o ∧ o < nx w ∧ (sh w o).1 < 7
def tpl (x : Int32) : Nat := if x < 0 then 1 else 85 + 8 * x.toNatClampNeg
def twn (a k b j : Nat) (w : gW) : Prop := gR w a k = some (tpl (gI w b j))
def lgA (w : gW) : Prop := ∀ t k : Nat, t < 6 → k < 60 → (k : Int) < (gI w 179 t).toInt → gL w (79 + t) k = gL w 180 (60 * t + k)
/-- a place, a cell out of reach of the frame -/
abbrev oP (T : List Nat) (C : List (Nat × Nat)) (a : Nat) : Prop := a ∉ T ∧ ∀ c ∈ C, c.1 ≠ a
abbrev oC (T : List Nat) (C : List (Nat × Nat)) (a k : Nat) : Prop := a ∉ T ∧ (a, k) ∉ C
theorem all4 {P : Nat → Prop} {b : Nat} (h0 : P b) (h1 : P (b + 1)) (h2 : P (b + 2)) (h3 : P (b + 3)) : ∀ p, p < 4 → P (b + p) := fun p hp => by
  have : p = 0 ∨ p = 1 ∨ p = 2 ∨ p = 3 := by omega
  rcases this with rfl | rfl | rfl | rfl
  · exact h0
  · exact h1
  · exact h2
  · exact h3
theorem all6 {P : Nat → Prop} {b : Nat} (h0 : P b) (h1 : P (b + 1)) (h2 : P (b + 2)) (h3 : P (b + 3)) (h4 : P (b + 4)) (h5 : P (b + 5)) : ∀ p, p < 6 → P (b + p) := fun p hp => by
  have : p = 0 ∨ p = 1 ∨ p = 2 ∨ p = 3 ∨ p = 4 ∨ p = 5 := by omega
  rcases this with rfl | rfl | rfl | rfl | rfl | rfl
  · exact h0
  · exact h1
  · exact h2
  · exact h3
  · exact h4
  · exact h5
section FORMS
variable {w u : gW} {T : List Nat} {C : List (Nat × Nat)} {a b c e i j n f m mk mv : Nat} {lo hi : Int}
theorem eqA.fr (h : Fr T C w u) (ha : oP T C a) (hb : oP T C b) (q : eqA a b n w) : eqA a b n u := fun k hk => by rw [h.i ha, h.i hb]; exact q k hk
theorem eqC.fr (h : Fr T C w u) (ha : oC T C a i) (hb : oC T C b j) (q : eqC a i b j w) : eqC a i b j u := by unfold eqC; rw [h.c ha, h.c hb]; exact q
theorem rgA.fr (h : Fr T C w u) (ha : oP T C a) (q : rgA a n lo hi w) : rgA a n lo hi u := fun k hk => by rw [h.i ha]; exact q k hk
theorem rgC.fr (h : Fr T C w u) (ha : oC T C a i) (q : rgC a i lo hi w) : rgC a i lo hi u := by unfold rgC; rw [h.c ha]; exact q
theorem ltC.fr (h : Fr T C w u) (ha : oC T C a i) (hb : oC T C b j) (q : ltC a i b j w) : ltC a i b j u := by unfold ltC; rw [h.c ha, h.c hb]; exact q
theorem ltA.fr (h : Fr T C w u) (ha : oP T C a) (hb : oC T C b j) (he : oC T C e f) (q : ltA a n b j e f w) : ltA a n b j e f u := fun k hk => by rw [h.i ha, h.c hb, h.c he]; exact q k hk
theorem grd.fr (h : Fr T C w u) (ha : ∀ p, p < 4 → oP T C (b + p)) (hb : oP T C m) (q : grd b m n w) : grd b m n u := fun p k hp hk => by rw [h.i (ha p hp), h.i hb]; exact q p k hp hk
theorem zer.fr (h : Fr T C w u) (ha : oC T C a i) (hb : oP T C m) (q : zer a i m n w) : zer a i m n u := fun p k hp hk => by rw [h.c ha, h.i hb]; exact q p k hp hk
theorem pyr.fr (h : Fr T C w u) (hT : ∀ t ∈ T, t < 182) (hC : ∀ t ∈ C, t.1 < 182) (ha : oP T C a) (hc : oC T C c i) (hk : oP T C mk) (hv : oP T C mv) (q : pyr a c i mk mv w) : pyr a c i mk mv u := fun p hp hl => by
  rw [h.c hc] at hl
  obtain ⟨o, h1, h2, h3, h4⟩ := q p hp hl
  have ho : oP T C o := ⟨fun z => absurd (hT o z) (by omega), fun z hz e => absurd (hC z hz) (by omega)⟩
  refine ⟨o, by rw [h.r ha]; exact h1, h2, by rw [h.1]; exact h3, ?_⟩
  rw [h.s, h.i hk, h.i hv, h.i ho, h.i ho, h.i ho]
  exact h4
theorem pyo.fr (h : Fr T C w u) (ha : oP T C a) (q : pyo a w) : pyo a u := fun p o hp ho => by
  rw [h.r ha] at ho
  rw [h.1, h.s]
  exact q p o hp ho
theorem twn.fr (h : Fr T C w u) (ha : oC T C a i) (hb : oC T C b j) (q : twn a i b j w) : twn a i b j u := by unfold twn; rw [h.rc ha, h.c hb]; exact q
theorem lgA.fr (h : Fr T C w u) (ha : ∀ t, t < 6 → oP T C (79 + t)) (hb : oP T C 180) (hc : oP T C 179) (q : lgA w) : lgA u := fun t k ht hk hl => by
  rw [h.i hc] at hl
  rw [h.l (ha t ht).1, h.l hb.1]; exact q t k ht hk hl
end FORMS
def nzr (a b n : Nat) (w : gW) : Prop := ∀ k, k < n → (gI w a k).toInt < 0 → (gI w b k).toInt = 0
theorem nzr.fr {w u : gW} {T : List Nat} {C : List (Nat × Nat)} {a b n : Nat} (h : Fr T C w u) (ha : oP T C a) (hb : oP T C b) (q : nzr a b n w) : nzr a b n u := fun k hk hl => by
  rw [h.i ha] at hl
  rw [h.i hb]; exact q k hk hl
