/-! ===== class and model hold the same: the forms of a relation, each with its places ===== -/
def eqA (a b n : Nat) (w : gW) : Prop := ∀ k, k < n → gI w a k = gI w b k
def eqC (a i b j : Nat) (w : gW) : Prop := gI w a i = gI w b j
def rgA (a n : Nat) (lo hi : Int) (w : gW) : Prop := ∀ k, k < n → lo ≤ (gI w a k).toInt ∧ (gI w a k).toInt ≤ hi
def rgC (a i : Nat) (lo hi : Int) (w : gW) : Prop := lo ≤ (gI w a i).toInt ∧ (gI w a i).toInt ≤ hi
def ltC (a i b j : Nat) (w : gW) : Prop := (gI w a i).toInt < (gI w b j).toInt
def ltA (a n b j : Nat) (e f : Nat) (w : gW) : Prop := ∀ k : Nat, k < n → (k : Int) < (gI w e f).toInt → (gI w a k).toInt < (gI w b j).toInt
def grd (b m n : Nat) (w : gW) : Prop := ∀ p k, p < 4 → k < n → gI w (b + p) k = gI w m (n * p + k)
def zer (a i m n : Nat) (w : gW) : Prop := ∀ p k : Nat, p < 4 → k < n → (gI w a i).toInt ≤ (p : Int) → gI w m (n * p + k) = 0
def pyr (a c i mk mv : Nat) (w : gW) : Prop := ∀ p : Nat, p < 4 → (p : Int) < (gI w c i).toInt → ∃ o, gR w a p = some o ∧ 182 ≤ o ∧ o < nx w ∧ (sh w o).1 < 7 ∧ ((sh w o).1 : Int) = (gI w mk p).toInt ∧ gI w o 0 = gI w mk p ∧ gI w o 1 = J (p : Int) ∧ gI w o 2 = gI w mv p
def pyo (a : Nat) (w : gW) : Prop := ∀ p o, p < 4 → gR w a p = some o → 182 ≤ o ∧ o < nx w ∧ (sh w o).1 < 7
def tpl (x : Int32) : Nat := if x < 0 then 1 else 85 + 8 * x.toNatClampNeg
def twn (a k b j : Nat) (w : gW) : Prop := gR w a k = some (tpl (gI w b j))
def lgA (w : gW) : Prop := ∀ t k, t < 6 → k < 60 → gL w (79 + t) k = gL w 180 (60 * t + k)
section FORMS
variable {w u : gW} {T : List Nat} {a b c e i j n f m mk mv : Nat} {lo hi : Int}
theorem eqA.fr (h : Fr T w u) (ha : a ∉ T) (hb : b ∉ T) (q : eqA a b n w) : eqA a b n u := fun k hk => by rw [h.i ha, h.i hb]; exact q k hk
theorem eqC.fr (h : Fr T w u) (ha : a ∉ T) (hb : b ∉ T) (q : eqC a i b j w) : eqC a i b j u := by unfold eqC; rw [h.i ha, h.i hb]; exact q
theorem rgA.fr (h : Fr T w u) (ha : a ∉ T) (q : rgA a n lo hi w) : rgA a n lo hi u := fun k hk => by rw [h.i ha]; exact q k hk
theorem rgC.fr (h : Fr T w u) (ha : a ∉ T) (q : rgC a i lo hi w) : rgC a i lo hi u := by unfold rgC; rw [h.i ha]; exact q
theorem ltC.fr (h : Fr T w u) (ha : a ∉ T) (hb : b ∉ T) (q : ltC a i b j w) : ltC a i b j u := by unfold ltC; rw [h.i ha, h.i hb]; exact q
theorem ltA.fr (h : Fr T w u) (ha : a ∉ T) (hb : b ∉ T) (he : e ∉ T) (q : ltA a n b j e f w) : ltA a n b j e f u := fun k hk => by rw [h.i ha, h.i hb, h.i he]; exact q k hk
theorem grd.fr (h : Fr T w u) (ha : ∀ p, p < 4 → b + p ∉ T) (hb : m ∉ T) (q : grd b m n w) : grd b m n u := fun p k hp hk => by rw [h.i (ha p hp), h.i hb]; exact q p k hp hk
theorem zer.fr (h : Fr T w u) (ha : a ∉ T) (hb : m ∉ T) (q : zer a i m n w) : zer a i m n u := fun p k hp hk => by rw [h.i ha, h.i hb]; exact q p k hp hk
theorem pyr.fr (h : Fr T w u) (hT : ∀ t ∈ T, t < 182) (ha : a ∉ T) (hc : c ∉ T) (hk : mk ∉ T) (hv : mv ∉ T) (q : pyr a c i mk mv w) : pyr a c i mk mv u := fun p hp hl => by
  rw [h.i hc] at hl
  obtain ⟨o, h1, h2, h3, h4⟩ := q p hp hl
  have ho : o ∉ T := fun z => absurd (hT o z) (by omega)
  refine ⟨o, by rw [h.r ha]; exact h1, h2, by rw [h.1]; exact h3, ?_⟩
  rw [h.s, h.i hk, h.i hv, h.i ho, h.i ho, h.i ho]
  exact h4
theorem pyo.fr (h : Fr T w u) (ha : a ∉ T) (q : pyo a w) : pyo a u := fun p o hp ho => by
  rw [h.r ha] at ho
  rw [h.1, h.s]
  exact q p o hp ho
theorem twn.fr (h : Fr T w u) (ha : a ∉ T) (hb : b ∉ T) (q : twn a i b j w) : twn a i b j u := by unfold twn; rw [h.r ha, h.i hb]; exact q
theorem lgA.fr (h : Fr T w u) (ha : ∀ t, t < 6 → 79 + t ∉ T) (hb : 180 ∉ T) (q : lgA w) : lgA u := fun t k ht hk => by rw [h.l (ha t ht), h.l hb]; exact q t k ht hk
end FORMS
