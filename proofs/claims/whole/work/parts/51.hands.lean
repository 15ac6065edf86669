/-! ===== hands, in their order; what a hand is worth ===== -/
def hl : List Nat → List (List Nat)
  | [] => [[]]
  | m :: ms => (List.range' 0 (m + 1)).flatMap fun k => (hl ms).map (fun x => k :: x)
def nxt : List Nat → List Nat → Option (List Nat)
  | m :: ms, k :: ks => match nxt ms ks with
    | some r => some (k :: r)
    | none => if k < m then some ((k + 1) :: List.replicate ms.length 0) else none
  | _, _ => none
def chn (ms : List Nat) : List Nat → List (List Nat) → Prop
  | x, [] => nxt ms x = none
  | x, y :: ys => nxt ms x = some y ∧ chn ms y ys
def prd : List Nat → Nat
  | [] => 1
  | m :: ms => (m + 1) * prd ms
theorem hl_len (ms : List Nat) : (hl ms).length = prd ms := by
  induction ms with
  | nil => rfl
  | cons m ms ih =>
    have : ∀ d k, ((List.range' k d).flatMap fun k => (hl ms).map (fun x => k :: x)).length = d * prd ms := by
      intro d
      induction d with
      | zero => intro k; simp
      | succ d ihd =>
        intro k
        rw [List.range'_succ, List.flatMap_cons, List.length_append, ihd, List.length_map, ih, Nat.succ_mul]; omega
    exact this (m + 1) 0
theorem hl_mem (ms : List Nat) : ∀ x ∈ hl ms, x.length = ms.length ∧ ∀ s, x.getD s 0 ≤ ms.getD s 0 := by
  induction ms with
  | nil => intro x hx; simp only [hl, List.mem_singleton] at hx; subst hx; exact ⟨rfl, fun s => by simp⟩
  | cons m ms ih =>
    intro x hx
    simp only [hl, List.mem_flatMap, List.mem_map, List.mem_range'_1] at hx
    obtain ⟨k, ⟨-, hk⟩, y, hy, rfl⟩ := hx
    have := ih y hy
    refine ⟨by simp [this.1], fun s => ?_⟩
    cases s with
    | zero => simp only [List.getD_cons_zero]; omega
    | succ s => simp only [List.getD_cons_succ]; exact this.2 s
theorem chn_up (m : Nat) (ms : List Nat) (k : Nat) (R : List (List Nat)) (hR : (k < m ∧ ∃ R', R = ((k + 1) :: List.replicate ms.length 0) :: R' ∧ chn (m :: ms) ((k + 1) :: List.replicate ms.length 0) R') ∨ (¬ k < m ∧ R = [])) :
    ∀ (t : List (List Nat)) (x : List Nat), chn ms x t → chn (m :: ms) (k :: x) (t.map (fun x => k :: x) ++ R) := by
  intro t
  induction t with
  | nil =>
    intro x h
    simp only [chn] at h
    rcases hR with ⟨h1, R', rfl, h2⟩ | ⟨h1, rfl⟩
    · simp only [List.map_nil, List.nil_append, chn]
      refine ⟨?_, h2⟩
      simp [nxt, h, h1]
    · simp only [List.map_nil, List.nil_append, chn]
      simp [nxt, h, h1]
  | cons y t ih =>
    intro x h
    simp only [chn] at h
    simp only [List.map_cons, List.cons_append, chn]
    refine ⟨?_, ih y h.2⟩
    simp [nxt, h.1]
theorem hl_chn (ms : List Nat) : ∃ t, hl ms = List.replicate ms.length 0 :: t ∧ chn ms (List.replicate ms.length 0) t := by
  induction ms with
  | nil => exact ⟨[], rfl, rfl⟩
  | cons m ms ih =>
    obtain ⟨t, h1, h2⟩ := ih
    have : ∀ d k, k + d = m → ∃ t', ((List.range' k (d + 1)).flatMap fun k => (hl ms).map (fun x => k :: x)) = (k :: List.replicate ms.length 0) :: t' ∧ chn (m :: ms) (k :: List.replicate ms.length 0) t' := by
      intro d
      induction d with
      | zero =>
        intro k hk
        refine ⟨t.map (fun x => k :: x) ++ [], ?_, chn_up m ms k [] (Or.inr ⟨by omega, rfl⟩) t _ h2⟩
        rw [List.range'_succ, List.flatMap_cons, h1]; simp
      | succ d ihd =>
        intro k hk
        obtain ⟨t', e, g⟩ := ihd (k + 1) (by omega)
        refine ⟨t.map (fun x => k :: x) ++ ((k + 1) :: List.replicate ms.length 0) :: t', ?_, chn_up m ms k _ (Or.inl ⟨by omega, t', rfl, g⟩) t _ h2⟩
        rw [List.range'_succ, List.flatMap_cons, e, h1]; simp
    obtain ⟨t', e, g⟩ := this m 0 (by omega)
    exact ⟨t', e, g⟩
/-- one sort barred -/
theorem hl_bar (ms : List Nat) : ∀ s, hl (ms.set s 0) = (hl ms).filter (fun x => x.getD s 0 == 0) := by
  induction ms with
  | nil => intro s; simp [hl]
  | cons m ms ih =>
    intro s
    cases s with
    | zero =>
      simp only [List.set_cons_zero, hl]
      rw [List.range'_succ, List.range'_succ]
      simp only [List.flatMap_cons, List.filter_append]
      have h1 : ((hl ms).map (fun x => 0 :: x)).filter (fun x => x.getD 0 0 == 0) = (hl ms).map (fun x => 0 :: x) := by
        rw [List.filter_eq_self]; intro x hx; simp only [List.mem_map] at hx; obtain ⟨y, -, rfl⟩ := hx; rfl
      have h2 : ((List.range' (0 + 1) m).flatMap fun k => (hl ms).map (fun x => k :: x)).filter (fun x => x.getD 0 0 == 0) = [] := by
        rw [List.filter_eq_nil_iff]; intro x hx
        simp only [List.mem_flatMap, List.mem_map, List.mem_range'_1] at hx
        obtain ⟨k, ⟨hk, -⟩, y, -, rfl⟩ := hx
        simp only [List.getD_cons_zero, beq_iff_eq]; omega
      rw [h1, h2]; simp
    | succ s =>
      simp only [List.set_cons_succ, hl]
      rw [List.filter_flatMap]
      congr 1; funext k
      rw [ih s, List.filter_map]; rfl
def wo : Nat → Int
  | 0 => 1
  | 1 => 2
  | 2 => 5
  | 3 => 10
  | 4 => 20
  | _ => 50
def gx (x : List Nat) (s : Nat) : Int := ((x.getD s 0 : Nat) : Int)
def hsum (x : List Nat) : Int := gx x 0 + 2 * gx x 1 + 5 * gx x 2 + 10 * gx x 3 + 20 * gx x 4 + 50 * gx x 5
def hcnt (x : List Nat) : Int := gx x 0 + gx x 1 + gx x 2 + gx x 3 + gx x 4 + gx x 5
/-- what is left after the d greatest sorts were given back, of t coins each -/
def lft (t : Nat → Int) (D : Int) : Nat → Int
  | 0 => D
  | d + 1 => lft t D d - min (t (5 - d)) (lft t D d / wo (5 - d)) * wo (5 - d)
def bck (t : Nat → Int) (D : Int) (s : Nat) : Int := min (t s) (lft t D (5 - s) / wo s)
def tx (ti : Nat → Int) (x : List Nat) (s : Nat) : Int := ti s + gx x s
def bx (ti : Nat → Int) (x : List Nat) (price : Int) (s : Nat) : Int := bck (tx ti x) (hsum x - price) s
def payA (pu ti : Nat → Int) (price : Int) (x : List Nat) : Prop := price ≤ hsum x ∧ lft (tx ti x) (hsum x - price) 6 = 0 ∧ ∀ s, s < 6 → tx ti x s - bx ti x price s ≤ 99 ∧ pu s - gx x s + bx ti x price s ≤ 99
noncomputable def stp (P : List Nat → Prop) (rk : List Nat → Int) (st : Option (List Nat)) (x : List Nat) : Option (List Nat) :=
  @ite _ (P x) (Classical.propDecidable _) (match st with
    | none => some x
    | some y => if rk x < rk y then some x else some y) st
theorem stp_no {P : List Nat → Prop} {rk : List Nat → Int} {st : Option (List Nat)} {x : List Nat} (h : ¬ P x) : stp P rk st x = st := by unfold stp; rw [if_neg h]
theorem stp_0 {P : List Nat → Prop} {rk : List Nat → Int} {x : List Nat} (h : P x) : stp P rk none x = some x := by unfold stp; rw [if_pos h]
theorem stp_1 {P : List Nat → Prop} {rk : List Nat → Int} {x y : List Nat} (h : P x) (g : rk x < rk y) : stp P rk (some y) x = some x := by unfold stp; rw [if_pos h]; simp [g]
theorem stp_2 {P : List Nat → Prop} {rk : List Nat → Int} {x y : List Nat} (g : ¬ rk x < rk y) : stp P rk (some y) x = some y := by
  unfold stp
  by_cases h : P x
  · rw [if_pos h]; simp [g]
  · rw [if_neg h]
noncomputable def bst (P : List Nat → Prop) (rk : List Nat → Int) (L : List (List Nat)) (st : Option (List Nat)) : Option (List Nat) := L.foldl (stp P rk) st
theorem bst_filter {P : List Nat → Prop} {rk : List Nat → Int} (f : List Nat → Bool) : ∀ (L : List (List Nat)) (st : Option (List Nat)), bst P rk (L.filter f) st = bst (fun x => P x ∧ f x = true) rk L st := by
  intro L
  induction L with
  | nil => intro st; rfl
  | cons x L ih =>
    intro st
    unfold bst at ih ⊢
    by_cases h : f x = true
    · rw [List.filter_cons_of_pos h, List.foldl_cons, List.foldl_cons, ih]
      congr 1
      by_cases hp : P x
      · unfold stp; rw [if_pos hp, if_pos ⟨hp, h⟩]
      · rw [stp_no hp, stp_no (fun z => hp z.1)]
    · rw [List.filter_cons_of_neg h, List.foldl_cons, ih, stp_no (fun z => h z.2)]
theorem bst_mem {P : List Nat → Prop} {rk : List Nat → Int} : ∀ (L : List (List Nat)) (st : Option (List Nat)) (y : List Nat), bst P rk L st = some y → st = some y ∨ (y ∈ L ∧ P y) := by
  intro L
  induction L with
  | nil => intro st y h; exact Or.inl h
  | cons x L ih =>
    intro st y h
    rcases ih _ y h with g | g
    · unfold stp at g
      by_cases hp : P x
      · rw [if_pos hp] at g
        cases st with
        | none => cases g; exact Or.inr ⟨List.mem_cons_self, hp⟩
        | some z =>
          simp only at g
          split at g
          · cases g; exact Or.inr ⟨List.mem_cons_self, hp⟩
          · exact Or.inl g
      · rw [if_neg hp] at g; exact Or.inl g
    · exact Or.inr ⟨List.mem_cons_of_mem _ g.1, g.2⟩
/-- two ways to rank that agree on what counts choose the same -/
theorem bst_rk {P Q : List Nat → Prop} {rk bd : List Nat → Int} {K : List Nat → Prop} (hPQ : ∀ x, K x → (P x ↔ Q x)) (hr : ∀ x y, K x → K y → P x → P y → (rk x < rk y ↔ bd x < bd y)) :
    ∀ (L : List (List Nat)) (st : Option (List Nat)), (∀ x ∈ L, K x) → (∀ y, st = some y → K y ∧ P y) → bst P rk L st = bst Q bd L st := by
  intro L
  induction L with
  | nil => intro st _ _; rfl
  | cons x L ih =>
    intro st hL hst
    have hx := hL x List.mem_cons_self
    have e : stp P rk st x = stp Q bd st x := by
      by_cases hp : P x
      · have hq := (hPQ x hx).mp hp
        cases st with
        | none => rw [stp_0 hp, stp_0 hq]
        | some y =>
          have hy := hst y rfl
          by_cases g : rk x < rk y
          · rw [stp_1 hp g, stp_1 hq ((hr x y hx hy.1 hp hy.2).mp g)]
          · rw [stp_2 g, stp_2 (fun z => g ((hr x y hx hy.1 hp hy.2).mpr z))]
      · rw [stp_no hp, stp_no (fun z => hp ((hPQ x hx).mpr z))]
    show bst P rk L (stp P rk st x) = bst Q bd L (stp Q bd st x)
    rw [← e]
    refine ih _ (fun y hy => hL y (List.mem_cons_of_mem _ hy)) (fun y hy => ?_)
    rcases bst_mem (P := P) (rk := rk) [x] st y (by rw [← hy]; rfl) with g | g
    · exact hst y g
    · simp only [List.mem_singleton] at g; rw [g.1] at *; exact ⟨hx, g.2⟩
section GIVE
variable {t : Nat → Int} {D : Int}
theorem lft_in (ht : ∀ s, s < 6 → 0 ≤ t s) (hD : 0 ≤ D) : ∀ d, d ≤ 6 → 0 ≤ lft t D d ∧ lft t D d ≤ D := by
  intro d
  induction d with
  | zero => intro _; exact ⟨hD, Int.le_refl _⟩
  | succ d ih =>
    intro hd
    have h1 := ih (by omega)
    have h2 := ht (5 - d) (by omega)
    have h3 : d = 0 ∨ d = 1 ∨ d = 2 ∨ d = 3 ∨ d = 4 ∨ d = 5 := by omega
    simp only [lft]
    rcases h3 with rfl | rfl | rfl | rfl | rfl | rfl <;> simp only [wo] <;> (simp only [Nat.sub_zero, Nat.reduceSub, wo] at h1 h2 ⊢) <;> omega
theorem bck_in (ht : ∀ s, s < 6 → 0 ≤ t s) (hD : 0 ≤ D) {s : Nat} (hs : s < 6) : 0 ≤ bck t D s ∧ bck t D s ≤ t s ∧ bck t D s ≤ D := by
  have h1 := lft_in ht hD (5 - s) (by omega)
  have h2 := ht s hs
  unfold bck
  rcases in6 hs with rfl | rfl | rfl | rfl | rfl | rfl <;> simp only [wo] <;> omega
end GIVE
