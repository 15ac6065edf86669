/-! ===== the second layer: what a pure function answers ===== -/
def ok {ρ : Type} (x : Option (ρ × gW)) (Q : ρ → gW → Prop) : Prop := ∃ r w, x = some (r, w) ∧ Q r w
section OK
variable {ρ σ α : Type} {Q : ρ → gW → Prop} {w : gW}
theorem ok_ret {r : ρ} : ok (some (r, w)) Q ↔ Q r w := ⟨fun ⟨_, _, h, q⟩ => by cases h; exact q, fun h => ⟨_, _, rfl, h⟩⟩
theorem ok_bd {v : α} {f : α → Option (ρ × gW)} : ok (bd v f) Q ↔ ok (f v) Q := Iff.rfl
theorem ok_gd {c : Prop} [Decidable c] {x : Option (ρ × gW)} : ok (gd c x) Q ↔ c ∧ ok x Q := by
  unfold gd
  by_cases h : c
  · simp [h]
  · simp [h, ok]
theorem ok_cd {c : Prop} [Decidable c] {x y : Option (ρ × gW)} : ok (cd c x y) Q ↔ (c → ok x Q) ∧ (¬ c → ok y Q) := by
  unfold cd
  by_cases h : c
  · simp [h]
  · simp [h]
theorem ok_rr {o : Option Nat} {f : Nat → Option (ρ × gW)} : ok (rr o f) Q ↔ ∃ x, o = some x ∧ ok (f x) Q := by
  cases o with
  | none => simp [rr, ok]
  | some x => simp [rr]
theorem ok_rr1 {x : Nat} {f : Nat → Option (ρ × gW)} : ok (rr (some x) f) Q ↔ ok (f x) Q := Iff.rfl
theorem ok_nr0 {z : Option (ρ × gW)} {f : Nat → Option (ρ × gW)} : ok (nr none z f) Q ↔ ok z Q := Iff.rfl
theorem ok_nr1 {x : Nat} {z : Option (ρ × gW)} {f : Nat → Option (ρ × gW)} : ok (nr (some x) z f) Q ↔ ok (f x) Q := Iff.rfl
theorem ok_kl {x : Option (σ × gW)} {f : σ → gW → Option (ρ × gW)} : ok (kl x f) Q ↔ ok x (fun v w => ok (f v w) Q) := by
  constructor
  · rintro ⟨r, w, h, q⟩
    obtain ⟨v, u, h1, h2⟩ := kl_e h
    exact ⟨v, u, h1, r, w, h2, q⟩
  · rintro ⟨v, u, h1, r, w, h2, q⟩
    exact ⟨r, w, by rw [h1]; exact h2, q⟩
theorem ok.mono {x : Option (ρ × gW)} {P : ρ → gW → Prop} (h : ok x P) (k : ∀ r w, P r w → Q r w) : ok x Q := by
  obtain ⟨r, w, e, q⟩ := h
  exact ⟨r, w, e, k r w q⟩
/-- a method's contract used at a call -/
theorem ok_call {x : Option (σ × gW)} {P : σ → gW → Prop} {f : σ → gW → Option (ρ × gW)} (h : ok x P) (k : ∀ r w, P r w → ok (f r w) Q) : ok (kl x f) Q := ok_kl.mpr (h.mono k)
theorem ok_itr {f : (α → Option (ρ × gW)) → α → Option (ρ × gW)} (I : α → Prop) (m : α → Nat) (step : ∀ (rec : α → Option (ρ × gW)) (q : α), I q → (∀ q', I q' → m q' < m q → ok (rec q') Q) → ok (f rec q) Q) :
    ∀ (n : Nat) (x : α), I x → m x < n → ok (itr f n x) Q := by
  intro n
  induction n with
  | zero => intro x _ h; omega
  | succ n ih => intro x hx h; exact step _ x hx (fun q' h1 h2 => ih q' h1 (by omega))
end OK
section MEM
variable {w : gW} {a b k j : Nat}
theorem gI_sI {v : Int32} : gI (sI w a k v) b j = if b = a ∧ j = k then v else gI w b j := rfl
theorem gL_sI {v : Int32} : gL (sI w a k v) b j = gL w b j := rfl
theorem gR_sI {v : Int32} : gR (sI w a k v) b j = gR w b j := rfl
theorem sh_sI {v : Int32} : sh (sI w a k v) b = sh w b := rfl
theorem nx_sI {v : Int32} : nx (sI w a k v) = nx w := rfl
theorem gI_sL {v : Int64} : gI (sL w a k v) b j = gI w b j := rfl
theorem gL_sL {v : Int64} : gL (sL w a k v) b j = if b = a ∧ j = k then v else gL w b j := rfl
theorem gR_sL {v : Int64} : gR (sL w a k v) b j = gR w b j := rfl
theorem sh_sL {v : Int64} : sh (sL w a k v) b = sh w b := rfl
theorem nx_sL {v : Int64} : nx (sL w a k v) = nx w := rfl
theorem gI_sR {v : Option Nat} : gI (sR w a k v) b j = gI w b j := rfl
theorem gL_sR {v : Option Nat} : gL (sR w a k v) b j = gL w b j := rfl
theorem gR_sR {v : Option Nat} : gR (sR w a k v) b j = if b = a ∧ j = k then v else gR w b j := rfl
theorem sh_sR {v : Option Nat} : sh (sR w a k v) b = sh w b := rfl
theorem nx_sR {v : Option Nat} : nx (sR w a k v) = nx w := rfl
theorem gI_cI {s d n q : Nat} : gI (cI w a s b d n) q j = if q = b ∧ d ≤ j ∧ j < d + n then gI w a (s + (j - d)) else gI w q j := rfl
theorem gL_cI {s d n q : Nat} : gL (cI w a s b d n) q j = gL w q j := rfl
theorem gR_cI {s d n q : Nat} : gR (cI w a s b d n) q j = gR w q j := rfl
theorem sh_cI {s d n q : Nat} : sh (cI w a s b d n) q = sh w q := rfl
theorem nx_cI {s d n : Nat} : nx (cI w a s b d n) = nx w := rfl
theorem gI_cL {s d n q : Nat} : gI (cL w a s b d n) q j = gI w q j := rfl
theorem gL_cL {s d n q : Nat} : gL (cL w a s b d n) q j = if q = b ∧ d ≤ j ∧ j < d + n then gL w a (s + (j - d)) else gL w q j := rfl
theorem gR_cL {s d n q : Nat} : gR (cL w a s b d n) q j = gR w q j := rfl
theorem sh_cL {s d n q : Nat} : sh (cL w a s b d n) q = sh w q := rfl
theorem nx_cL {s d n : Nat} : nx (cL w a s b d n) = nx w := rfl
theorem gI_nw {kd n : Nat} : gI (nw w kd n) b j = if b = nx w then 0 else gI w b j := rfl
theorem gL_nw {kd n : Nat} : gL (nw w kd n) b j = if b = nx w then 0 else gL w b j := rfl
theorem gR_nw {kd n : Nat} : gR (nw w kd n) b j = if b = nx w then none else gR w b j := rfl
theorem sh_nw {kd n : Nat} : sh (nw w kd n) b = if b = nx w then (kd, n) else sh w b := rfl
theorem nx_nw {kd n : Nat} : nx (nw w kd n) = nx w + 1 := rfl
/-- nothing at that place differs -/
def sm (w w' : gW) (a : Nat) : Prop := sh w' a = sh w a ∧ (∀ k, gI w' a k = gI w a k) ∧ (∀ k, gL w' a k = gL w a k) ∧ ∀ k, gR w' a k = gR w a k
theorem sm.rfl' : sm w w a := ⟨rfl, fun _ => rfl, fun _ => rfl, fun _ => rfl⟩
theorem sm.tr {u v : gW} (h : sm w u a) (g : sm u v a) : sm w v a := ⟨g.1.trans h.1, fun k => (g.2.1 k).trans (h.2.1 k), fun k => (g.2.2.1 k).trans (h.2.2.1 k), fun k => (g.2.2.2 k).trans (h.2.2.2 k)⟩
theorem sm_sI {v : Int32} (h : b ≠ a) : sm w (sI w a k v) b := ⟨rfl, fun j => by rw [gI_sI, if_neg (fun q => h q.1)], fun _ => rfl, fun _ => rfl⟩
theorem sm_sL {v : Int64} (h : b ≠ a) : sm w (sL w a k v) b := ⟨rfl, fun _ => rfl, fun j => by rw [gL_sL, if_neg (fun q => h q.1)], fun _ => rfl⟩
theorem sm_sR {v : Option Nat} (h : b ≠ a) : sm w (sR w a k v) b := ⟨rfl, fun _ => rfl, fun _ => rfl, fun j => by rw [gR_sR, if_neg (fun q => h q.1)]⟩
theorem sm_cI {s d n q : Nat} (h : q ≠ b) : sm w (cI w a s b d n) q := ⟨rfl, fun j => by rw [gI_cI, if_neg (fun e => h e.1)], fun _ => rfl, fun _ => rfl⟩
theorem sm_cL {s d n q : Nat} (h : q ≠ b) : sm w (cL w a s b d n) q := ⟨rfl, fun _ => rfl, fun j => by rw [gL_cL, if_neg (fun e => h e.1)], fun _ => rfl⟩
theorem sm_nw {kd n : Nat} (h : b ≠ nx w) : sm w (nw w kd n) b := ⟨by rw [sh_nw, if_neg h], fun j => by rw [gI_nw, if_neg h], fun j => by rw [gL_nw, if_neg h], fun j => by rw [gR_nw, if_neg h]⟩
end MEM
/-! ===== ints as Int ===== -/
def J (z : Int) : Int32 := Int32.ofInt z
def In (z : Int) : Prop := -2147483648 ≤ z ∧ z < 2147483648
section JJ
variable {a b : Int}
theorem toInt_J (h : -2147483648 ≤ a ∧ a < 2147483648) : (J a).toInt = a := Int32.toInt_ofInt_of_le h.1 h.2
theorem J_toInt (x : Int32) : J x.toInt = x := Int32.ofInt_toInt x
theorem J_of {x : Int32} (h : x.toInt = a) : x = J a := by rw [← h, J_toInt]
theorem J_in (x : Int32) : -2147483648 ≤ x.toInt ∧ x.toInt < 2147483648 := ⟨Int32.le_toInt x, Int32.toInt_lt x⟩
theorem J_add : J a + J b = J (a + b) := (Int32.ofInt_add a b).symm
theorem J_sub : J a - J b = J (a - b) := (Int32.ofInt_sub a b).symm
theorem J_mul : J a * J b = J (a * b) := (Int32.ofInt_mul a b).symm
theorem J_neg : - J a = J (- a) := (Int32.ofInt_neg a).symm
theorem J_lt (h : -2147483648 ≤ a ∧ a < 2147483648 ∧ -2147483648 ≤ b ∧ b < 2147483648) : J a < J b ↔ a < b := by
  rw [Int32.lt_iff_toInt_lt, toInt_J ⟨h.1, h.2.1⟩, toInt_J h.2.2]
theorem J_le (h : -2147483648 ≤ a ∧ a < 2147483648 ∧ -2147483648 ≤ b ∧ b < 2147483648) : J a ≤ J b ↔ a ≤ b := by
  rw [Int32.le_iff_toInt_le, toInt_J ⟨h.1, h.2.1⟩, toInt_J h.2.2]
theorem J_eq (h : -2147483648 ≤ a ∧ a < 2147483648 ∧ -2147483648 ≤ b ∧ b < 2147483648) : J a = J b ↔ a = b := by
  rw [← Int32.toInt_inj, toInt_J ⟨h.1, h.2.1⟩, toInt_J h.2.2]
theorem J_nat (h : -2147483648 ≤ a ∧ a < 2147483648) : (J a).toNatClampNeg = a.toNat := Int32.toNatClampNeg_ofInt_of_le h.1 h.2
theorem J_div (h : -2147483648 < a ∧ a < 2147483648 ∧ 0 < b ∧ b < 2147483648) : J a / J b = J (a.tdiv b) := by
  rw [← Int32.toInt_inj, Int32.toInt_div_of_ne_right, toInt_J ⟨by omega, h.2.1⟩, toInt_J ⟨by omega, h.2.2.2⟩, toInt_J]
  · have := Int.natAbs_tdiv_le_natAbs a b
    omega
  · intro e
    have : (J b).toInt = -1 := by rw [e]; rfl
    rw [toInt_J ⟨by omega, h.2.2.2⟩] at this
    omega
theorem J_lit (n : Nat) : (OfNat.ofNat n : Int32) = J (n : Int) := (Int32.ofInt_eq_ofNat).symm
end JJ
