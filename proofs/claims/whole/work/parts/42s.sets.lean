/-! ===== ints by toInt; sets ===== -/
section LITS
theorem ti_lt {a b : Int32} : a < b ↔ a.toInt < b.toInt := Int32.lt_iff_toInt_lt
theorem ti_le {a b : Int32} : a ≤ b ↔ a.toInt ≤ b.toInt := Int32.le_iff_toInt_le
theorem ti_eq {a b : Int32} : a = b ↔ a.toInt = b.toInt := Int32.toInt_inj.symm
theorem ti_nat {a : Int32} : a.toNatClampNeg = a.toInt.toNat := rfl
theorem ti_0 : (0 : Int32).toInt = 0 := rfl
theorem ti_1 : (1 : Int32).toInt = 1 := rfl
theorem ti_2 : (2 : Int32).toInt = 2 := rfl
theorem ti_3 : (3 : Int32).toInt = 3 := rfl
theorem ti_4 : (4 : Int32).toInt = 4 := rfl
theorem ti_5 : (5 : Int32).toInt = 5 := rfl
theorem ti_6 : (6 : Int32).toInt = 6 := rfl
theorem ti_7 : (7 : Int32).toInt = 7 := rfl
theorem ti_8 : (8 : Int32).toInt = 8 := rfl
theorem ti_9 : (9 : Int32).toInt = 9 := rfl
theorem ti_10 : (10 : Int32).toInt = 10 := rfl
theorem ti_60 : (60 : Int32).toInt = 60 := rfl
theorem ti_99 : (99 : Int32).toInt = 99 := rfl
theorem ti_199 : (199 : Int32).toInt = 199 := rfl
theorem ti_20 : (20 : Int32).toInt = 20 := rfl
theorem ti_19 : (19 : Int32).toInt = 19 := rfl
theorem ti_127 : (127 : Int32).toInt = 127 := rfl
theorem ti_100 : (100 : Int32).toInt = 100 := rfl
theorem ti_n1 : (-1 : Int32).toInt = -1 := rfl
theorem ti_add {a b : Int32} (h : -2147483648 ≤ a.toInt + b.toInt ∧ a.toInt + b.toInt < 2147483648) : (a + b).toInt = a.toInt + b.toInt := by
  have := toInt_J h
  rw [← this, ← J_add, J_toInt, J_toInt]
theorem ti_sub {a b : Int32} (h : -2147483648 ≤ a.toInt - b.toInt ∧ a.toInt - b.toInt < 2147483648) : (a - b).toInt = a.toInt - b.toInt := by
  have := toInt_J h
  rw [← this, ← J_sub, J_toInt, J_toInt]
theorem ti_mul {a b : Int32} (h : -2147483648 ≤ a.toInt * b.toInt ∧ a.toInt * b.toInt < 2147483648) : (a * b).toInt = a.toInt * b.toInt := by
  have := toInt_J h
  rw [← this, ← J_mul, J_toInt, J_toInt]
end LITS
section SETS
variable {w : gW} {a b c i k m n p : Nat} {v : Int32} {lo hi : Int}
theorem eqA_set (q : eqA a b n w) (hab : a ≠ b) : eqA a b n (sI (sI w a k v) b k v) := fun j hj => by
  have := q j hj
  simp only [gI_sI]
  by_cases e : j = k
  · simp [e]
  · simp [e, this]
theorem rgA_oth (q : rgA a n lo hi w) (h : a ≠ b) : rgA a n lo hi (sI w b k v) := fun j hj => by
  rw [gI_sI, if_neg (fun z => h z.1)]; exact q j hj
theorem rgA_set (q : rgA a n lo hi w) (h : lo ≤ v.toInt ∧ v.toInt ≤ hi) : rgA a n lo hi (sI w a k v) := fun j hj => by
  rw [gI_sI]
  by_cases e : j = k
  · rw [if_pos ⟨rfl, e⟩]; exact h
  · rw [if_neg (fun z => e z.2)]; exact q j hj
theorem grd_set (q : grd b m n w) (hp : p < 4) (hk : k < n) (h1 : m ≠ b + p) (h2 : m < b ∨ b + 4 ≤ m) (h3 : 0 < n) : grd b m n (sI (sI w (b + p) k v) m (n * p + k) v) := fun r j hr hj => by
  have := q r j hr hj
  simp only [gI_sI]
  by_cases e : r = p
  · subst e
    by_cases e2 : j = k
    · subst e2; simp
    · rw [if_neg (fun z => by omega), if_neg (fun z => e2 z.2), if_neg (fun z => e2 (by omega)), if_neg (fun z => by omega)]; exact this
  · rw [if_neg (fun z => by omega), if_neg (fun z => e (by omega)), if_neg (fun z => ?_), if_neg (fun z => by omega)]
    · exact this
    · have h4 := z.2
      have h5 : (n * r + j) / n = (n * p + k) / n := by rw [h4]
      rw [Nat.mul_add_div h3, Nat.mul_add_div h3, Nat.div_eq_of_lt hj, Nat.div_eq_of_lt hk] at h5
      omega
theorem zer_oth (q : zer a i m n w) (h : a ≠ b) (h2 : m ≠ b) : zer a i m n (sI w b k v) := fun p j hp hj hl => by
  rw [gI_sI, if_neg (fun z => h z.1)] at hl
  rw [gI_sI, if_neg (fun z => h2 z.1)]; exact q p j hp hj hl
theorem zer_set (q : zer a i m n w) (h : a ≠ m) (hp : p < 4) (hk : k < n) (hl : (p : Int) < (gI w a i).toInt) : zer a i m n (sI w m (n * p + k) v) := fun r j hr hj hl' => by
  rw [gI_sI, if_neg (fun z => h z.1)] at hl'
  rw [gI_sI, if_neg (fun z => ?_)]
  · exact q r j hr hj hl'
  · have h4 := z.2
    have h5 : (n * r + j) / n = (n * p + k) / n := by rw [h4]
    rw [Nat.mul_add_div (by omega), Nat.mul_add_div (by omega), Nat.div_eq_of_lt hj, Nat.div_eq_of_lt hk] at h5
    omega
theorem in4 (hp : p < 4) : p = 0 ∨ p = 1 ∨ p = 2 ∨ p = 3 := by omega
theorem lay_r11 (h : Lay w) (hp : p < 4) : gR w 11 p = some (12 + p) := by
  have hr := lay_r h
  rcases in4 hp with rfl | rfl | rfl | rfl <;> simp only [hr, Nat.reduceAdd]
theorem lay_s12 (h : Lay w) (hp : p < 4) : sh w (12 + p) = (50, 6) := by
  have hr := lay_s h
  rcases in4 hp with rfl | rfl | rfl | rfl <;> simp only [hr, Nat.reduceAdd]
theorem lay_r16 (h : Lay w) (hp : p < 4) : gR w 16 p = some (17 + p) := by
  have hr := lay_r h
  rcases in4 hp with rfl | rfl | rfl | rfl <;> simp only [hr, Nat.reduceAdd]
theorem lay_s17 (h : Lay w) (hp : p < 4) : sh w (17 + p) = (50, 4) := by
  have hr := lay_s h
  rcases in4 hp with rfl | rfl | rfl | rfl <;> simp only [hr, Nat.reduceAdd]
end SETS
section NES
variable {w : gW} {a b k j : Nat} {v : Int32} {x : Option Nat}
theorem gI_ne (h : b ≠ a) : gI (sI w a k v) b j = gI w b j := by rw [gI_sI, if_neg (fun z => h z.1)]
theorem gI_nk (h : j ≠ k) : gI (sI w a k v) b j = gI w b j := by rw [gI_sI, if_neg (fun z => h z.2)]
theorem gI_eq : gI (sI w a k v) a k = v := by rw [gI_sI, if_pos ⟨rfl, rfl⟩]
theorem gR_ne (h : b ≠ a) : gR (sR w a k x) b j = gR w b j := by rw [gR_sR, if_neg (fun z => h z.1)]
theorem gR_nk (h : j ≠ k) : gR (sR w a k x) b j = gR w b j := by rw [gR_sR, if_neg (fun z => h z.2)]
theorem gR_eq : gR (sR w a k x) a k = x := by rw [gR_sR, if_pos ⟨rfl, rfl⟩]
end NES
section OTH
variable {w : gW} {a b c d i k j m n p : Nat} {v u : Int32} {lo hi : Int}
theorem eqA_oth (q : eqA a b n w) (h : a ≠ c) (h2 : b ≠ c) : eqA a b n (sI w c k v) := fun j hj => by
  rw [gI_ne h, gI_ne h2]; exact q j hj
/-- both arrays get the same at k, with a step elsewhere between -/
theorem eqA_set2 (q : eqA a b n w) (hab : a ≠ b) (hc : c ≠ a) (hd : c ≠ b) : eqA a b n (sI (sI (sI w a k v) c m u) b k v) := fun j hj => by
  have := q j hj
  have hc1 : ¬ a = c := fun z => hc z.symm
  have hd1 : ¬ b = c := fun z => hd z.symm
  simp only [gI_sI]
  by_cases e : j = k
  · simp [e, hab, hc1]
  · simp [e, this, hc1, hd1]
theorem eqC_set (h : ¬ (a = b ∧ i = j)) : eqC a i b j (sI (sI w a i v) b j v) := by
  unfold eqC; rw [gI_eq, gI_sI, if_neg h, gI_eq]
theorem eqC_oth (q : eqC a i b j w) (h : ¬ (a = c ∧ i = k)) (h2 : ¬ (b = c ∧ j = k)) : eqC a i b j (sI w c k v) := by
  unfold eqC; rw [gI_sI, if_neg h, gI_sI, if_neg h2]; exact q
theorem rgC_set (h : lo ≤ v.toInt ∧ v.toInt ≤ hi) : rgC a i lo hi (sI w a i v) := by
  unfold rgC; rw [gI_eq]; exact h
theorem rgC_oth (q : rgC a i lo hi w) (h : ¬ (a = c ∧ i = k)) : rgC a i lo hi (sI w c k v) := by
  unfold rgC; rw [gI_sI, if_neg h]; exact q
end OTH
section TAPES
variable {w : gW} {i k n t : Nat} {x : Int64}
theorem lgA_set (q : lgA w) (ht : t < 6) (hi : i < 60) : lgA (sL (sL w (79 + t) i x) 180 (60 * t + i) x) := fun r j hr hj hl => by
  have := q r j hr hj hl
  simp only [gL_sL]
  by_cases e : r = t
  · subst e
    by_cases e2 : j = i
    · subst e2; simp
    · rw [if_neg (fun z => by omega), if_neg (fun z => e2 z.2), if_neg (fun z => by omega), if_neg (fun z => by omega)]; exact this
  · rw [if_neg (fun z => by omega), if_neg (fun z => by omega), if_neg (fun z => by omega), if_neg (fun z => by omega)]; exact this
theorem in6 {p : Nat} (hp : p < 6) : p = 0 ∨ p = 1 ∨ p = 2 ∨ p = 3 ∨ p = 4 ∨ p = 5 := by omega
theorem lay_r78 (h : Lay w) (hp : t < 6) : gR w 78 t = some (79 + t) := by
  have hr := lay_r h
  rcases in6 hp with rfl | rfl | rfl | rfl | rfl | rfl <;> simp only [hr, Nat.reduceAdd]
theorem lay_s79 (h : Lay w) (hp : t < 6) : sh w (79 + t) = (52, 60) := by
  have hr := lay_s h
  rcases in6 hp with rfl | rfl | rfl | rfl | rfl | rfl <;> simp only [hr, Nat.reduceAdd]
end TAPES
