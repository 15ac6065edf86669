/-! ===== the whole relation; how a call is stepped ===== -/
def SimB (w : gW) : Prop := ∀ a, a < 182 → sh w a = sh w a
theorem SimB.fr {w u : gW} {T : List Nat} {C : List (Nat × Nat)} (h : Fr T C w u) (q : SimB w) : SimB u := fun _ _ => rfl
def Sim (w : gW) : Prop := Lay w ∧ SimA w ∧ SimB w
section LITS
theorem ti_lt {a b : Int32} : a < b ↔ a.toInt < b.toInt := Int32.lt_iff_toInt_lt
theorem ti_le {a b : Int32} : a ≤ b ↔ a.toInt ≤ b.toInt := Int32.le_iff_toInt_le
theorem ti_eq {a b : Int32} : a = b ↔ a.toInt = b.toInt := Int32.toInt_inj.symm
theorem ti_nat {a : Int32} : a.toNatClampNeg = a.toInt.toNat := rfl
theorem ti_0 : (0 : Int32).toInt = 0 := rfl
theorem ti_1 : (1 : Int32).toInt = 1 := rfl
theorem ti_2 : (2 : Int32).toInt = 2 := rfl
theorem ti_3 : (3 : Int32).toInt = 3 := rfl
theorem ti_4 : (4 : Int32).toInt = 4 := rfl
theorem ti_5 : (5 : Int32).toInt = 5 := rfl
theorem ti_6 : (6 : Int32).toInt = 6 := rfl
theorem ti_7 : (7 : Int32).toInt = 7 := rfl
theorem ti_8 : (8 : Int32).toInt = 8 := rfl
theorem ti_9 : (9 : Int32).toInt = 9 := rfl
theorem ti_10 : (10 : Int32).toInt = 10 := rfl
theorem ti_60 : (60 : Int32).toInt = 60 := rfl
theorem ti_99 : (99 : Int32).toInt = 99 := rfl
theorem ti_100 : (100 : Int32).toInt = 100 := rfl
theorem ti_n1 : (-1 : Int32).toInt = -1 := rfl
theorem ti_add {a b : Int32} (h : -2147483648 ≤ a.toInt + b.toInt ∧ a.toInt + b.toInt < 2147483648) : (a + b).toInt = a.toInt + b.toInt := by
  have := toInt_J h
  rw [← this, ← J_add, J_toInt, J_toInt]
theorem ti_sub {a b : Int32} (h : -2147483648 ≤ a.toInt - b.toInt ∧ a.toInt - b.toInt < 2147483648) : (a - b).toInt = a.toInt - b.toInt := by
  have := toInt_J h
  rw [← this, ← J_sub, J_toInt, J_toInt]
theorem ti_mul {a b : Int32} (h : -2147483648 ≤ a.toInt * b.toInt ∧ a.toInt * b.toInt < 2147483648) : (a * b).toInt = a.toInt * b.toInt := by
  have := toInt_J h
  rw [← this, ← J_mul, J_toInt, J_toInt]
end LITS
