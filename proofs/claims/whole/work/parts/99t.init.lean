/-! ===== how it begins =====  -/
def iX : Option (Unit × gW) := f_X_init 1000 0 (nw gW0 11 0)
def iXw : gW := match iX with
  | some q => q.2
  | none => gW0
def iM : Option (Unit × gW) := f_M_init 1000 133 (nw iXw 12 0)
def iW : gW := match iM with
  | some q => q.2
  | none => gW0
theorem t_1 : (match iX with | some q => Nat.beq (nx q.2) 133 | none => false) = true := by decide +kernel
theorem t_2 : (match iM with | some q => Nat.ble 182 (nx q.2) | none => false) = true := by decide +kernel
theorem t_lay1 : ∀ i, i < 182 → sh iW i = shT.getD i (0, 0) := by decide +kernel
theorem t_lay2 : ∀ t ∈ refT, gR iW t.1 t.2.1 = some t.2.2 := by decide +kernel
theorem t_lay3 : 182 ≤ nx iW := by decide +kernel
