/-! ===== how many bits of a long stand =====  -/
def bQ3 (r : Nat) : Nat := r - (r / 2 &&& 85)
def bS7 (r : Nat) : Nat := (bQ3 r &&& 51) + (bQ3 r / 4 &&& 51)
def bPc (r : Nat) : Nat := r % 2 + r / 2 % 2 + r / 4 % 2 + r / 8 % 2 + r / 16 % 2 + r / 32 % 2 + r / 64 % 2 + r / 128 % 2
theorem bb_tpc : ∀ r, r < 256 → (bS7 r + bS7 r / 16) % 16 = bPc r ∧ bS7 r % 16 ≤ 4 ∧ bS7 r / 16 ≤ 4 ∧ bQ3 r < 256 ∧ (r / 2 &&& 85) ≤ r := by decide +kernel
def bVl : List Nat → Nat
  | [] => 0
  | r :: R => r + 256 * bVl R
theorem bb_and_pos_ {a b c d : Nat} (hb : b < 256) (hd : d < 256) : (256 * a + b) &&& (256 * c + d) = 256 * (a &&& c) + (b &&& d) := by
  have h1 : ((256 * a + b) &&& (256 * c + d)) / 2 ^ 8 = (256 * a + b) / 2 ^ 8 &&& (256 * c + d) / 2 ^ 8 := Nat.and_div_two_pow
  have h2 : ((256 * a + b) &&& (256 * c + d)) % 2 ^ 8 = (256 * a + b) % 2 ^ 8 &&& (256 * c + d) % 2 ^ 8 := Nat.and_mod_two_pow
  have e1 : (256 * a + b) / 2 ^ 8 = a := by omega
  have e2 : (256 * c + d) / 2 ^ 8 = c := by omega
  have e3 : (256 * a + b) % 2 ^ 8 = b := by omega
  have e4 : (256 * c + d) % 2 ^ 8 = d := by omega
  rw [e1, e2] at h1
  rw [e3, e4] at h2
  generalize (256 * a + b) &&& (256 * c + d) = z at *
  generalize a &&& c = y at *
  generalize b &&& d = x at *
  omega
theorem bb_t55 : ∀ r, r < 256 → ∀ t, t < 2 → (128 * t + r / 2) &&& 85 = r / 2 &&& 85 := by decide +kernel
theorem bb_t33 : ∀ r, r < 256 → ∀ t, t < 4 → (64 * t + r / 4) &&& 51 = r / 4 &&& 51 := by decide +kernel
theorem bb_val55 : ∀ (R : List Nat), (∀ r ∈ R, r < 256) → (bVl R / 2) &&& bVl (R.map fun _ => 85) = bVl (R.map fun r => r / 2 &&& 85) := by
  intro R
  induction R with
  | nil => intro _; rfl
  | cons r R ih =>
    intro h
    have hr := h r List.mem_cons_self
    have ih := ih (fun x hx => h x (List.mem_cons_of_mem _ hx))
    simp only [List.map_cons, bVl]
    have e : (r + 256 * bVl R) / 2 = 256 * (bVl R / 2) + (128 * (bVl R % 2) + r / 2) := by omega
    rw [e, Nat.add_comm 85, bb_and_pos_ (by omega) (by omega), ih, bb_t55 r hr _ (by omega), Nat.add_comm]
theorem bb_val33 : ∀ (R : List Nat), (∀ r ∈ R, r < 256) → (bVl R / 4) &&& bVl (R.map fun _ => 51) = bVl (R.map fun r => r / 4 &&& 51) := by
  intro R
  induction R with
  | nil => intro _; rfl
  | cons r R ih =>
    intro h
    have hr := h r List.mem_cons_self
    have ih := ih (fun x hx => h x (List.mem_cons_of_mem _ hx))
    simp only [List.map_cons, bVl]
    have e : (r + 256 * bVl R) / 4 = 256 * (bVl R / 4) + (64 * (bVl R % 4) + r / 4) := by omega
    rw [e, Nat.add_comm 51, bb_and_pos_ (by omega) (by omega), ih, bb_t33 r hr _ (by omega), Nat.add_comm]
theorem bb_val3 : ∀ (R : List Nat), (∀ r ∈ R, r < 256) → bVl R &&& bVl (R.map fun _ => 51) = bVl (R.map fun r => r &&& 51) := by
  intro R
  induction R with
  | nil => intro _; rfl
  | cons r R ih =>
    intro h
    have hr := h r List.mem_cons_self
    have ih := ih (fun x hx => h x (List.mem_cons_of_mem _ hx))
    simp only [List.map_cons, bVl]
    rw [Nat.add_comm 51, Nat.add_comm r, bb_and_pos_ hr (by omega), ih, Nat.add_comm]
theorem bb_valsub : ∀ (R : List Nat), (∀ r ∈ R, r < 256) → bVl (R.map fun r => r / 2 &&& 85) ≤ bVl R ∧ bVl R - bVl (R.map fun r => r / 2 &&& 85) = bVl (R.map bQ3) := by
  intro R
  induction R with
  | nil => intro _; exact ⟨Nat.le_refl _, rfl⟩
  | cons r R ih =>
    intro h
    have hr := h r List.mem_cons_self
    have ih := ih (fun x hx => h x (List.mem_cons_of_mem _ hx))
    have := (bb_tpc r hr).2.2.2.2
    simp only [List.map_cons, bVl, bQ3] at *
    omega
theorem bb_valadd (f g : Nat → Nat) : ∀ (R : List Nat), bVl (R.map f) + bVl (R.map g) = bVl (R.map fun r => f r + g r) := by
  intro R
  induction R with
  | nil => rfl
  | cons r R ih => simp only [List.map_cons, bVl]; omega
theorem bb_val16 : ∀ (R : List Nat), (∀ r ∈ R, r % 16 ≤ 4 ∧ r / 16 ≤ 4) → ((bVl R + bVl R / 16) &&& bVl (R.map fun _ => 15)) = bVl (R.map fun r => (r + r / 16) % 16) ∧ bVl R % 16 ≤ 4 := by
  intro R
  induction R with
  | nil => intro _; exact ⟨rfl, by decide⟩
  | cons r R ih =>
    intro h
    have hr := h r List.mem_cons_self
    have ih := ih (fun x hx => h x (List.mem_cons_of_mem _ hx))
    simp only [List.map_cons, bVl]
    refine ⟨?_, by omega⟩
    have e : (r + 256 * bVl R) + (r + 256 * bVl R) / 16 = 256 * (bVl R + bVl R / 16) + (r + r / 16 + 16 * (bVl R % 16)) := by omega
    rw [e, Nat.add_comm 15, bb_and_pos_ (by omega) (by omega), ih.1]
    have e15 : (r + r / 16 + 16 * (bVl R % 16)) &&& 15 = (r + r / 16 + 16 * (bVl R % 16)) % 2 ^ 4 := Nat.and_two_pow_sub_one_eq_mod _ 4
    rw [e15]
    omega
theorem bb_m85 : bVl [85,85,85,85,85,85,85,85] = 6148914691236517205 := rfl
theorem bb_m51 : bVl [51,51,51,51,51,51,51,51] = 3689348814741910323 := rfl
theorem bb_m15 : bVl [15,15,15,15,15,15,15,15] = 1085102592571150095 := rfl
theorem bb_bytes (n : Nat) (h : n < 2 ^ 64) : bVl [n % 256, n / 2 ^ 8 % 256, n / 2 ^ 16 % 256, n / 2 ^ 24 % 256, n / 2 ^ 32 % 256, n / 2 ^ 40 % 256, n / 2 ^ 48 % 256, n / 2 ^ 56 % 256] = n := by
  simp only [bVl]; omega
theorem bb_vdiv {r : Nat} {R : List Nat} (h : r < 256) : bVl (r :: R) / 256 = bVl R := by simp only [bVl]; omega
theorem bb_vmod {r : Nat} {R : List Nat} (h : r < 128) : bVl (r :: R) % 128 = r := by simp only [bVl]; omega
theorem bb_vlt : ∀ (R : List Nat), (∀ r ∈ R, r < 256) → bVl R < 256 ^ R.length := by
  intro R
  induction R with
  | nil => intro _; decide
  | cons r R ih =>
    intro h
    have hr := h r List.mem_cons_self
    have ih := ih (fun x hx => h x (List.mem_cons_of_mem _ hx))
    simp only [bVl, List.length_cons, Nat.pow_succ]
    omega
theorem bb_vlt8 {R : List Nat} (l : R.length = 8) (h : ∀ r ∈ R, r < 256) : bVl R < 2 ^ 64 := by
  have := bb_vlt R h
  rw [l] at this
  have e : (256 : Nat) ^ 8 = 2 ^ 64 := by decide
  rw [← e]; exact this
theorem bb_vlt2 : ∀ (R : List Nat), (∀ r ∈ R, r ≤ 127) → 2 * bVl R < 256 ^ R.length := by
  intro R
  induction R with
  | nil => intro _; decide
  | cons r R ih =>
    intro h
    have hr := h r List.mem_cons_self
    have ih := ih (fun x hx => h x (List.mem_cons_of_mem _ hx))
    simp only [bVl, List.length_cons, Nat.pow_succ]
    omega
theorem bb_vlt28 {R : List Nat} (l : R.length = 8) (h : ∀ r ∈ R, r ≤ 127) : 2 * bVl R < 2 ^ 64 := by
  have := bb_vlt2 R h
  rw [l] at this
  have e : (256 : Nat) ^ 8 = 2 ^ 64 := by decide
  rw [← e]; exact this
theorem bb_fold3 {c0 c1 c2 c3 c4 c5 c6 c7 : Nat} (h : c0 ≤ 8 ∧ c1 ≤ 8 ∧ c2 ≤ 8 ∧ c3 ≤ 8 ∧ c4 ≤ 8 ∧ c5 ≤ 8 ∧ c6 ≤ 8 ∧ c7 ≤ 8) {x a b c : Nat} (hx : x = bVl [c0, c1, c2, c3, c4, c5, c6, c7]) (ha : a = x + x / 2 ^ 8) (hb : b = a + a / 2 ^ 16) (hc : c = b + b / 2 ^ 32) : c % 128 = c0 + c1 + c2 + c3 + c4 + c5 + c6 + c7 ∧ a < 2 ^ 64 ∧ b < 2 ^ 64 ∧ c < 2 ^ 64 := by
  obtain ⟨h0, h1, h2, h3, h4, h5, h6, h7⟩ := h
  have ha' : a = bVl [c0 + c1, c1 + c2, c2 + c3, c3 + c4, c4 + c5, c5 + c6, c6 + c7, c7] := by
    rw [ha, show (2 : Nat) ^ 8 = 256 from rfl, hx, bb_vdiv (by omega)]
    simp only [bVl]; omega
  clear ha hx x
  have hb' : b = bVl [c0 + c1 + c2 + c3, c1 + c2 + c3 + c4, c2 + c3 + c4 + c5, c3 + c4 + c5 + c6, c4 + c5 + c6 + c7, c5 + c6 + c7, c6 + c7, c7] := by
    rw [hb, show (2 : Nat) ^ 16 = 256 * 256 from rfl, ← Nat.div_div_eq_div_mul, ha', bb_vdiv (by omega), bb_vdiv (by omega)]
    simp only [bVl]; omega
  clear hb
  have hc' : c = bVl [c0 + c1 + c2 + c3 + c4 + c5 + c6 + c7, c1 + c2 + c3 + c4 + c5 + c6 + c7, c2 + c3 + c4 + c5 + c6 + c7, c3 + c4 + c5 + c6 + c7, c4 + c5 + c6 + c7, c5 + c6 + c7, c6 + c7, c7] := by
    rw [hc, show (2 : Nat) ^ 32 = 256 * 256 * 256 * 256 from rfl, ← Nat.div_div_eq_div_mul, ← Nat.div_div_eq_div_mul, ← Nat.div_div_eq_div_mul, hb', bb_vdiv (by omega), bb_vdiv (by omega), bb_vdiv (by omega), bb_vdiv (by omega)]
    simp only [bVl]; omega
  clear hc
  refine ⟨by rw [hc']; exact bb_vmod (by omega), ?_, ?_, ?_⟩
  · rw [ha']; exact bb_vlt8 rfl (by intro r hr; simp only [List.mem_cons, List.not_mem_nil, or_false] at hr; omega)
  · rw [hb']; exact bb_vlt8 rfl (by intro r hr; simp only [List.mem_cons, List.not_mem_nil, or_false] at hr; omega)
  · rw [hc']; exact bb_vlt8 rfl (by intro r hr; simp only [List.mem_cons, List.not_mem_nil, or_false] at hr; omega)
/-- the whole count -/
theorem bb_pop {n x3 x7 x10 a b c : Nat} (hn : n < 2 ^ 64) (h3 : x3 = n - (n / 2 &&& 6148914691236517205)) (h7 : x7 = (x3 &&& 3689348814741910323) + (x3 / 4 &&& 3689348814741910323)) (h10 : x10 = (x7 + x7 / 16) &&& 1085102592571150095) (ha : a = x10 + x10 / 2 ^ 8) (hb : b = a + a / 2 ^ 16) (hc : c = b + b / 2 ^ 32) :
    (n / 2 &&& 6148914691236517205) ≤ n ∧ x7 < 2 ^ 64 ∧ x7 + x7 / 16 < 2 ^ 64 ∧ a < 2 ^ 64 ∧ b < 2 ^ 64 ∧ c < 2 ^ 64 ∧ c % 128 = bPc (n % 256) + bPc (n / 2 ^ 8 % 256) + bPc (n / 2 ^ 16 % 256) + bPc (n / 2 ^ 24 % 256) + bPc (n / 2 ^ 32 % 256) + bPc (n / 2 ^ 40 % 256) + bPc (n / 2 ^ 48 % 256) + bPc (n / 2 ^ 56 % 256) := by
  have hv := bb_bytes n hn
  have hR : ∀ r ∈ [n % 256, n / 2 ^ 8 % 256, n / 2 ^ 16 % 256, n / 2 ^ 24 % 256, n / 2 ^ 32 % 256, n / 2 ^ 40 % 256, n / 2 ^ 48 % 256, n / 2 ^ 56 % 256], r < 256 := by
    intro r hr
    simp only [List.mem_cons, List.not_mem_nil, or_false] at hr
    omega
  generalize n % 256 = r0 at *
  generalize n / 2 ^ 8 % 256 = r1 at *
  generalize n / 2 ^ 16 % 256 = r2 at *
  generalize n / 2 ^ 24 % 256 = r3 at *
  generalize n / 2 ^ 32 % 256 = r4 at *
  generalize n / 2 ^ 40 % 256 = r5 at *
  generalize n / 2 ^ 48 % 256 = r6 at *
  generalize n / 2 ^ 56 % 256 = r7 at *
  have a55 := bb_val55 _ hR
  have asub := bb_valsub _ hR
  have h0 := hR r0 (by simp); have h1 := hR r1 (by simp); have h2 := hR r2 (by simp); have h3' := hR r3 (by simp); have h4 := hR r4 (by simp); have h5 := hR r5 (by simp); have h6 := hR r6 (by simp); have h7' := hR r7 (by simp)
  rw [hv] at a55 asub
  have e1 : bVl (List.map (fun _ => 85) [r0, r1, r2, r3, r4, r5, r6, r7]) = 6148914691236517205 := bb_m85
  rw [e1] at a55
  rw [← a55] at asub
  rw [asub.2] at h3
  have hQ : ∀ r ∈ List.map bQ3 [r0, r1, r2, r3, r4, r5, r6, r7], r < 256 := by
    intro r hr
    obtain ⟨s, hs, rfl⟩ := List.mem_map.mp hr
    exact (bb_tpc s (hR s hs)).2.2.2.1
  have b3 := bb_val3 _ hQ
  have b4 := bb_val33 _ hQ
  have e2 : bVl (List.map (fun _ => 51) (List.map bQ3 [r0, r1, r2, r3, r4, r5, r6, r7])) = 3689348814741910323 := bb_m51
  rw [e2, ← h3] at b3 b4
  rw [b3, b4, bb_valadd] at h7
  have h7s : x7 = bVl (List.map bS7 [r0, r1, r2, r3, r4, r5, r6, r7]) := by rw [h7, List.map_map]; rfl
  have hS : ∀ r ∈ List.map bS7 [r0, r1, r2, r3, r4, r5, r6, r7], r % 16 ≤ 4 ∧ r / 16 ≤ 4 := by
    intro r hr
    obtain ⟨s, hs, rfl⟩ := List.mem_map.mp hr
    exact ⟨(bb_tpc s (hR s hs)).2.1, (bb_tpc s (hR s hs)).2.2.1⟩
  have c1 := (bb_val16 _ hS).1
  have e3 : bVl (List.map (fun _ => 15) (List.map bS7 [r0, r1, r2, r3, r4, r5, r6, r7])) = 1085102592571150095 := bb_m15
  rw [e3, ← h7s, ← h10, List.map_map] at c1
  have ec : x10 = bVl [bPc r0, bPc r1, bPc r2, bPc r3, bPc r4, bPc r5, bPc r6, bPc r7] := by
    rw [c1]
    simp only [List.map_cons, List.map_nil, Function.comp_apply, (bb_tpc _ h0).1, (bb_tpc _ h1).1, (bb_tpc _ h2).1, (bb_tpc _ h3').1, (bb_tpc _ h4).1, (bb_tpc _ h5).1, (bb_tpc _ h6).1, (bb_tpc _ h7').1]
  have p8 : ∀ r, bPc r ≤ 8 := fun r => by unfold bPc; omega
  have hf := bb_fold3 ⟨p8 r0, p8 r1, p8 r2, p8 r3, p8 r4, p8 r5, p8 r6, p8 r7⟩ ec ha hb hc
  have s8 : ∀ r, r < 256 → bS7 r ≤ 68 := fun r hr => by have := bb_tpc r hr; omega
  have x7b : 2 * x7 < 2 ^ 64 := by
    rw [h7s]
    refine bb_vlt28 rfl (fun r hr => ?_)
    obtain ⟨s, hs, rfl⟩ := List.mem_map.mp hr
    have := s8 s (hR s hs)
    omega
  have x7c : x7 < 2 ^ 64 := by omega
  have x7d : x7 + x7 / 16 < 2 ^ 64 := by omega
  exact ⟨asub.1, x7c, x7d, hf.2.1, hf.2.2.1, hf.2.2.2, hf.1⟩
theorem u_shr {a : UInt64} {k n : Nat} (kk : UInt64) (h : a.toNat = n) (hk : kk.toNat % 64 = k) : ((a >>> kk).toInt64).toUInt64.toNat = n / 2 ^ k := by
  show (a >>> kk).toNat = _
  rw [UInt64.toNat_shiftRight, hk, h, Nat.shiftRight_eq_div_pow]
theorem u_and {a b : Int64} {n m : Nat} (h : a.toUInt64.toNat = n) (hb : b.toUInt64.toNat = m) : (a &&& b).toUInt64.toNat = n &&& m := by
  rw [Int64.toUInt64_and, UInt64.toNat_and, h, hb]
theorem u_or {a b : Int64} {n m : Nat} (h : a.toUInt64.toNat = n) (hb : b.toUInt64.toNat = m) : (a ||| b).toUInt64.toNat = n ||| m := by
  rw [Int64.toUInt64_or, UInt64.toNat_or, h, hb]
theorem u_sub {a b : Int64} {n m : Nat} (h : a.toUInt64.toNat = n) (hb : b.toUInt64.toNat = m) (g : m ≤ n) : (a - b).toUInt64.toNat = n - m := by
  rw [Int64.toUInt64_sub, UInt64.toNat_sub_of_le, h, hb]
  rw [UInt64.le_iff_toNat_le, h, hb]; exact g
theorem u_add {a b : Int64} {n m : Nat} (h : a.toUInt64.toNat = n) (hb : b.toUInt64.toNat = m) (g : n + m < 2 ^ 64) : (a + b).toUInt64.toNat = n + m := by
  rw [Int64.toUInt64_add, UInt64.toNat_add, h, hb]; exact Nat.mod_eq_of_lt g
theorem u_127 {x : Int64} {c : Nat} (h : x.toUInt64.toNat = c) : (x.toInt32 &&& 127).toInt = ((c % 128 : Nat) : Int) := by
  have e : (x.toInt32 &&& 127).toBitVec.toNat = c % 128 := by
    have e1 : x.toInt32.toBitVec = x.toBitVec.setWidth 32 := by
      show x.toBitVec.signExtend 32 = _
      exact BitVec.signExtend_eq_setWidth_of_le _ (by decide)
    have e2 : x.toBitVec.toNat = c := h
    rw [Int32.toBitVec_and, BitVec.toNat_and, e1, BitVec.toNat_setWidth, e2]
    have e3 : (127 : Int32).toBitVec.toNat = 2 ^ 7 - 1 := rfl
    rw [e3, Nat.and_two_pow_sub_one_eq_mod]
    omega
  have e' : (x.toInt32 &&& 127).toInt = (x.toInt32 &&& 127).toBitVec.toInt := rfl
  rw [e', BitVec.toInt_eq_toNat_of_lt (by omega), e]
theorem u_bit0 : ∀ k : Nat, k < 64 → ((1 : Int64) <<< (Int64.ofInt (k : Int) &&& 63)).toUInt64.toNat = 2 ^ k := by decide +kernel
theorem u_bit {x : Int64} {k : Nat} (h : x.toInt = (k : Int)) (hk : k < 64) : ((1 : Int64) <<< (x &&& 63)).toUInt64.toNat = 2 ^ k := by
  have e : x = Int64.ofInt (k : Int) := Int64.toInt_inj.mp (by rw [h, Int64.toInt_ofInt_of_le (by omega) (by omega)])
  rw [e]; exact u_bit0 k hk
section BITC
variable {N : Nat} {w : gW}
theorem ok_bdP {α ρ : Type} {v : α} {f : α → Option (ρ × gW)} {Q : ρ → gW → Prop} (P : α → Prop) (h : P v) (k : ∀ x, P x → ok (f x) Q) : ok (bd v f) Q := k v h
def bCnt (n : Nat) : Nat := bPc (n % 256) + bPc (n / 2 ^ 8 % 256) + bPc (n / 2 ^ 16 % 256) + bPc (n / 2 ^ 24 % 256) + bPc (n / 2 ^ 32 % 256) + bPc (n / 2 ^ 40 % 256) + bPc (n / 2 ^ 48 % 256) + bPc (n / 2 ^ 56 % 256)
theorem c_bitCount {x : Int64} {n : Nat} (h : x.toUInt64.toNat = n) : ok (f_Lo_bitCount N x w) (fun r u => u = w ∧ r.toInt = ((bCnt n : Nat) : Int)) := by
  have hn : n < 2 ^ 64 := by rw [← h]; exact UInt64.toNat_lt _
  obtain ⟨X3, e3⟩ : ∃ z, z = n - (n / 2 &&& 6148914691236517205) := ⟨_, rfl⟩
  obtain ⟨X7, e7⟩ : ∃ z, z = (X3 &&& 3689348814741910323) + (X3 / 4 &&& 3689348814741910323) := ⟨_, rfl⟩
  obtain ⟨X10, e10⟩ : ∃ z, z = (X7 + X7 / 16) &&& 1085102592571150095 := ⟨_, rfl⟩
  obtain ⟨a, ea⟩ : ∃ z, z = X10 + X10 / 2 ^ 8 := ⟨_, rfl⟩
  obtain ⟨b, eb⟩ : ∃ z, z = a + a / 2 ^ 16 := ⟨_, rfl⟩
  obtain ⟨c, ec⟩ : ∃ z, z = b + b / 2 ^ 32 := ⟨_, rfl⟩
  obtain ⟨g1, g2, g3, g4, g5, g6, g7⟩ := bb_pop hn e3 e7 e10 ea eb ec
  unfold f_Lo_bitCount f_Lo_bitCount_b0
  refine ok_bdP (fun z : Int64 => z.toUInt64.toNat = n / 2) (u_shr (k := 1) _ h rfl) fun x1 h1 => ?_
  refine ok_bdP (fun z : Int64 => z.toUInt64.toNat = n / 2 &&& 6148914691236517205) (u_and h1 rfl) fun x2 h2 => ?_
  refine ok_bdP (fun z : Int64 => z.toUInt64.toNat = X3) ((u_sub h h2 g1).trans e3.symm) fun x3 h3 => ?_
  refine ok_bdP (fun z : Int64 => z.toUInt64.toNat = X3 &&& 3689348814741910323) (u_and h3 rfl) fun x4 h4 => ?_
  refine ok_bdP (fun z : Int64 => z.toUInt64.toNat = X3 / 4) (u_shr (k := 2) _ h3 rfl) fun x5 h5 => ?_
  refine ok_bdP (fun z : Int64 => z.toUInt64.toNat = X3 / 4 &&& 3689348814741910323) (u_and h5 rfl) fun x6 h6 => ?_
  refine ok_bdP (fun z : Int64 => z.toUInt64.toNat = X7) ((u_add h4 h6 (by rw [← e7]; exact g2)).trans e7.symm) fun x7 h7 => ?_
  refine ok_bdP (fun z : Int64 => z.toUInt64.toNat = X7 / 16) (u_shr (k := 4) _ h7 rfl) fun x8 h8 => ?_
  refine ok_bdP (fun z : Int64 => z.toUInt64.toNat = X7 + X7 / 16) (u_add h7 h8 g3) fun x9 h9 => ?_
  refine ok_bdP (fun z : Int64 => z.toUInt64.toNat = X10) ((u_and h9 rfl).trans e10.symm) fun x10 h10 => ?_
  refine ok_bdP (fun z : Int64 => z.toUInt64.toNat = X10 / 2 ^ 8) (u_shr (k := 8) _ h10 rfl) fun x11 h11 => ?_
  refine ok_bdP (fun z : Int64 => z.toUInt64.toNat = a) ((u_add h10 h11 (by rw [← ea]; exact g4)).trans ea.symm) fun x12 h12 => ?_
  refine ok_bdP (fun z : Int64 => z.toUInt64.toNat = a / 2 ^ 16) (u_shr (k := 16) _ h12 rfl) fun x13 h13 => ?_
  refine ok_bdP (fun z : Int64 => z.toUInt64.toNat = b) ((u_add h12 h13 (by rw [← eb]; exact g5)).trans eb.symm) fun x14 h14 => ?_
  refine ok_bdP (fun z : Int64 => z.toUInt64.toNat = b / 2 ^ 32) (u_shr (k := 32) _ h14 rfl) fun x15 h15 => ?_
  refine ok_bdP (fun z : Int64 => z.toUInt64.toNat = c) ((u_add h14 h15 (by rw [← ec]; exact g6)).trans ec.symm) fun x16 h16 => ?_
  simp only [ok_bd]
  exact ok_ret.mpr ⟨rfl, by rw [u_127 h16, g7]; rfl⟩
end BITC
