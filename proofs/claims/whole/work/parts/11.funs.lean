/-! ===== what each method does, as a pure function; by program out of the bytecode ===== -/
def instE (ci : Nat) : Int32 := if ci = 1 ∨ ci = 4 then 1 else 0
def instRo (ci : Nat) : Int32 := if ci = 2 ∨ ci = 5 then 1 else 0
def instKe (ci : Nat) : Int32 := if ci = 3 ∨ ci = 6 then 1 else 0
def instLi (ci : Nat) : Int32 := if ci = 4 then 1 else 0
def instWi (ci : Nat) : Int32 := if ci = 5 then 1 else 0
def instTo (ci : Nat) : Int32 := if ci = 6 then 1 else 0
def f_P_init_b0 (N : Nat) (a0 : Nat) (a1 : Int32) (a2 : Int32) (a3 : Int32) (w : gW) : Option (Unit × gW) :=
  gd ((sh w a0).1 < 7) <|
  bd (sI w a0 0 a1) fun w2 =>
  gd ((sh w2 a0).1 < 7) <|
  bd (sI w2 a0 1 a2) fun w4 =>
  gd ((sh w4 a0).1 < 7) <|
  bd (sI w4 a0 2 a3) fun w6 =>
  some ((), w6)
def f_P_init (N : Nat) (a0 : Nat) (a1 : Int32) (a2 : Int32) (a3 : Int32) (w : gW) : Option (Unit × gW) := f_P_init_b0 N a0 a1 a2 a3 w
def f_E_init_b0 (N : Nat) (a0 : Nat) (a1 : Int32) (a2 : Int32) (a3 : Int32) (w : gW) : Option (Unit × gW) :=
  gd ((sh w a0).1 < 7) <|
  kl (f_P_init N a0 a1 a2 a3 w) fun x1 w2 =>
  some ((), w2)
def f_E_init (N : Nat) (a0 : Nat) (a1 : Int32) (a2 : Int32) (a3 : Int32) (w : gW) : Option (Unit × gW) := f_E_init_b0 N a0 a1 a2 a3 w
def f_P_ranked_b0 (N : Nat) (a0 : Int32) (a1 : Int32) (w : gW) : Option (Int64 × gW) :=
  bd (a0.toInt64) fun x1 =>
  bd (x1 * 1000) fun x2 =>
  bd (a1.toInt64) fun x3 =>
  bd (x2 + x3) fun x4 =>
  some (x4, w)
def f_P_ranked (N : Nat) (a0 : Int32) (a1 : Int32) (w : gW) : Option (Int64 × gW) := f_P_ranked_b0 N a0 a1 w
def f_E_rank_b27 (N : Nat) (z0 : Int32) (z1 : Int32) (w : gW) : Option (Int64 × gW) :=
  kl (f_P_ranked N z1 z0 w) fun x6 w7 =>
  some (x6, w7)
def f_E_rank_b0 (N : Nat) (a1 : Nat) (w : gW) : Option (Int64 × gW) :=
  gd ((sh w a1).1 = 10) <|
  bd (gI w a1 8) fun x2 =>
  bd (gI w a1 8) fun x3 =>
  bd (gI w a1 7) fun x4 =>
  cd (x3 = x4) (
  bd (gI w a1 9) fun x9 =>
  bd (-x9) fun x10 =>
  f_E_rank_b27 N x10 x2 w) <|
    bd (gI w a1 9) fun x5 =>
    f_E_rank_b27 N x5 x2 w
def f_E_rank (N : Nat) (a0 : Nat) (a1 : Nat) (w : gW) : Option (Int64 × gW) := f_E_rank_b0 N a1 w
def f_Tr_begins_b19 (N : Nat) (a0 : Nat) (w : gW) : Option (Unit × gW) :=
  gd ((sh w a0).1 = 8) <|
  bd (gI w a0 1) fun x4 =>
  bd (x4 + 1) fun x5 =>
  bd (sI w a0 1 x5) fun w6 =>
  some ((), w6)
def f_Tr_begins_b0 (N : Nat) (a0 : Nat) (a1 : Int32) (w : gW) : Option (Unit × gW) :=
  gd ((sh w a0).1 = 8) <|
  bd (gI w a0 1) fun x2 =>
  cd ((20 : Int32) ≤ x2) (
    f_Tr_begins_b19 N a0 w) <|
  rr (gR w a0 0) fun x7 =>
  bd (gI w a0 1) fun x9 =>
  gd ((sh w x7).1 = 50) <|
  gd (¬ (x9 < 0 ∨ (sh w x7).2 ≤ x9.toNatClampNeg)) <|
  bd (sI w x7 x9.toNatClampNeg a1) fun w12 =>
  f_Tr_begins_b19 N a0 w12
def f_Tr_begins (N : Nat) (a0 : Nat) (a1 : Int32) (w : gW) : Option (Unit × gW) := f_Tr_begins_b0 N a0 a1 w
def f_P_counts_b0 (N : Nat) (a0 : Nat) (a1 : Int32) (a2 : Nat) (w : gW) : Option (Int32 × gW) :=
  gd ((sh w a2).1 = 8) <|
  kl (f_Tr_begins N a2 10 w) fun x1 w2 =>
  gd ((sh w2 a0).1 < 7) <|
  bd (gI w2 a0 1) fun x6 =>
  bd (a1 + x6) fun x7 =>
  some (x7, w2)
def f_P_counts (N : Nat) (a0 : Nat) (a1 : Int32) (a2 : Nat) (w : gW) : Option (Int32 × gW) := f_P_counts_b0 N a0 a1 a2 w
def f_Li_counts_b0 (N : Nat) (a0 : Nat) (a1 : Int32) (a2 : Nat) (w : gW) : Option (Int32 × gW) :=
  gd ((sh w a2).1 = 8) <|
  kl (f_Tr_begins N a2 50 w) fun x1 w2 =>
  gd ((sh w2 a0).1 < 7) <|
  kl (f_P_counts N a0 a1 a2 w2) fun x5 w6 =>
  bd (-x5) fun x11 =>
  some (x11, w6)
def f_Li_counts (N : Nat) (a0 : Nat) (a1 : Int32) (a2 : Nat) (w : gW) : Option (Int32 × gW) := f_Li_counts_b0 N a0 a1 a2 w
def f_Ro_counts_b0 (N : Nat) (a0 : Nat) (a1 : Int32) (a2 : Nat) (w : gW) : Option (Int32 × gW) :=
  gd ((sh w a2).1 = 8) <|
  kl (f_Tr_begins N a2 30 w) fun x1 w2 =>
  bd (a1 * 3) fun x5 =>
  gd ((sh w2 a0).1 < 7) <|
  kl (f_P_counts N a0 x5 a2 w2) fun x6 w7 =>
  some (x6, w7)
def f_Ro_counts (N : Nat) (a0 : Nat) (a1 : Int32) (a2 : Nat) (w : gW) : Option (Int32 × gW) := f_Ro_counts_b0 N a0 a1 a2 w
def f_To_counts_b0 (N : Nat) (a0 : Nat) (a1 : Int32) (a2 : Nat) (w : gW) : Option (Int32 × gW) :=
  gd ((sh w a2).1 = 8) <|
  kl (f_Tr_begins N a2 71 w) fun x1 w2 =>
  gd ((sh w2 a0).1 < 7) <|
  kl (f_P_counts N a0 a1 a2 w2) fun x5 w6 =>
  gd ((sh w6 a0).1 < 7) <|
  bd (gI w6 a0 2) fun x12 =>
  bd (x5 ^^^ x12) fun x13 =>
  some (x13, w6)
def f_To_counts (N : Nat) (a0 : Nat) (a1 : Int32) (a2 : Nat) (w : gW) : Option (Int32 × gW) := f_To_counts_b0 N a0 a1 a2 w
def v_counts (N : Nat) (a0 : Nat) (a1 : Int32) (a2 : Nat) (w : gW) : Option (Int32 × gW) :=
  cd ((sh w a0).1 = 0) (f_P_counts N a0 a1 a2 w) <|
  cd ((sh w a0).1 = 1) (f_P_counts N a0 a1 a2 w) <|
  cd ((sh w a0).1 = 2) (f_Ro_counts N a0 a1 a2 w) <|
  cd ((sh w a0).1 = 3) (f_P_counts N a0 a1 a2 w) <|
  cd ((sh w a0).1 = 4) (f_Li_counts N a0 a1 a2 w) <|
  cd ((sh w a0).1 = 5) (f_Ro_counts N a0 a1 a2 w) <|
  cd ((sh w a0).1 = 6) (f_To_counts N a0 a1 a2 w) <|
  none
def f_P_hands_b0 (N : Nat) (a0 : Nat) (a1 : Int32) (a2 : Nat) (w : gW) : Option (Int32 × gW) :=
  gd ((sh w a2).1 = 8) <|
  kl (f_Tr_begins N a2 11 w) fun x1 w2 =>
  kl (v_counts N a0 a1 a2 w2) fun x5 w6 =>
  gd ((sh w6 a0).1 < 7) <|
  bd (gI w6 a0 2) fun x9 =>
  bd (x5 - x9) fun x10 =>
  some (x10, w6)
def f_P_hands (N : Nat) (a0 : Nat) (a1 : Int32) (a2 : Nat) (w : gW) : Option (Int32 × gW) := f_P_hands_b0 N a0 a1 a2 w
def f_E_hands_b0 (N : Nat) (a0 : Nat) (a1 : Int32) (a2 : Nat) (w : gW) : Option (Int32 × gW) :=
  gd ((sh w a2).1 = 8) <|
  kl (f_Tr_begins N a2 20 w) fun x1 w2 =>
  gd ((sh w2 a0).1 < 7) <|
  kl (f_P_hands N a0 a1 a2 w2) fun x5 w6 =>
  bd (x5 ^^^ 6) fun x11 =>
  some (x11, w6)
def f_E_hands (N : Nat) (a0 : Nat) (a1 : Int32) (a2 : Nat) (w : gW) : Option (Int32 × gW) := f_E_hands_b0 N a0 a1 a2 w
def f_Ke_init_b0 (N : Nat) (a0 : Nat) (a1 : Int32) (a2 : Int32) (a3 : Int32) (w : gW) : Option (Unit × gW) :=
  gd ((sh w a0).1 < 7) <|
  kl (f_P_init N a0 a1 a2 a3 w) fun x1 w2 =>
  some ((), w2)
def f_Ke_init (N : Nat) (a0 : Nat) (a1 : Int32) (a2 : Int32) (a3 : Int32) (w : gW) : Option (Unit × gW) := f_Ke_init_b0 N a0 a1 a2 a3 w
def f_Ke_partsWith_b0 (N : Nat) (a0 : Nat) (a2 : Int32) (w : gW) : Option (Int32 × gW) :=
  gd ((sh w a0).1 < 7) <|
  bd (gI w a0 2) fun x2 =>
  bd (x2 - x2 / 6 * 6) fun x3 =>
  cd (a2 = x3) (
    some (0, w)) <|
  some (1, w)
def f_Ke_partsWith (N : Nat) (a0 : Nat) (a1 : Nat) (a2 : Int32) (w : gW) : Option (Int32 × gW) := f_Ke_partsWith_b0 N a0 a2 w
def f_Li_hands_b0 (N : Nat) (a0 : Nat) (a1 : Int32) (a2 : Nat) (w : gW) : Option (Int32 × gW) :=
  gd ((sh w a2).1 = 8) <|
  kl (f_Tr_begins N a2 51 w) fun x1 w2 =>
  bd (a1 + 1) fun x5 =>
  gd ((sh w2 a0).1 < 7) <|
  kl (f_E_hands N a0 x5 a2 w2) fun x6 w7 =>
  some (x6, w7)
def f_Li_hands (N : Nat) (a0 : Nat) (a1 : Int32) (a2 : Nat) (w : gW) : Option (Int32 × gW) := f_Li_hands_b0 N a0 a1 a2 w
def f_To_hands_b0 (N : Nat) (a0 : Nat) (a1 : Int32) (a2 : Nat) (w : gW) : Option (Int32 × gW) :=
  gd ((sh w a2).1 = 8) <|
  kl (f_Tr_begins N a2 70 w) fun x1 w2 =>
  gd ((sh w2 a0).1 < 7) <|
  kl (f_P_hands N a0 a1 a2 w2) fun x5 w6 =>
  gd ((sh w6 a0).1 < 7) <|
  kl (f_P_counts N a0 2 a2 w6) fun x11 w12 =>
  bd (x5 + x11) fun x17 =>
  some (x17, w12)
def f_To_hands (N : Nat) (a0 : Nat) (a1 : Int32) (a2 : Nat) (w : gW) : Option (Int32 × gW) := f_To_hands_b0 N a0 a1 a2 w
def v_hands (N : Nat) (a0 : Nat) (a1 : Int32) (a2 : Nat) (w : gW) : Option (Int32 × gW) :=
  cd ((sh w a0).1 = 0) (f_P_hands N a0 a1 a2 w) <|
  cd ((sh w a0).1 = 1) (f_E_hands N a0 a1 a2 w) <|
  cd ((sh w a0).1 = 2) (f_P_hands N a0 a1 a2 w) <|
  cd ((sh w a0).1 = 3) (f_P_hands N a0 a1 a2 w) <|
  cd ((sh w a0).1 = 4) (f_Li_hands N a0 a1 a2 w) <|
  cd ((sh w a0).1 = 5) (f_P_hands N a0 a1 a2 w) <|
  cd ((sh w a0).1 = 6) (f_To_hands N a0 a1 a2 w) <|
  none
def f_P_tells_b0 (N : Nat) (a0 : Nat) (a1 : Int32) (a2 : Nat) (w : gW) : Option (Int32 × gW) :=
  gd ((sh w a2).1 = 8) <|
  kl (f_Tr_begins N a2 12 w) fun x1 w2 =>
  kl (v_hands N a0 a1 a2 w2) fun x5 w6 =>
  bd (x5 * 2) fun x8 =>
  some (x8, w6)
def f_P_tells (N : Nat) (a0 : Nat) (a1 : Int32) (a2 : Nat) (w : gW) : Option (Int32 × gW) := f_P_tells_b0 N a0 a1 a2 w
def v_handsK (N : Nat) (a0 : Nat) (a1 : Int32) (a2 : Nat) (w : gW) : Option (Int32 × gW) :=
  cd ((sh w a0).1 = 3) (f_P_hands N a0 a1 a2 w) <|
  cd ((sh w a0).1 = 6) (f_To_hands N a0 a1 a2 w) <|
  none
def f_Ke_tells_b0 (N : Nat) (a0 : Nat) (a1 : Int32) (a2 : Nat) (w : gW) : Option (Int32 × gW) :=
  gd ((sh w a2).1 = 8) <|
  kl (f_Tr_begins N a2 40 w) fun x1 w2 =>
  gd ((sh w2 a0).1 < 7) <|
  kl (f_P_tells N a0 a1 a2 w2) fun x5 w6 =>
  kl (v_handsK N a0 1 a2 w6) fun x11 w12 =>
  bd (x5 + x11) fun x14 =>
  some (x14, w12)
def f_Ke_tells (N : Nat) (a0 : Nat) (a1 : Int32) (a2 : Nat) (w : gW) : Option (Int32 × gW) := f_Ke_tells_b0 N a0 a1 a2 w
def f_Li_init_b0 (N : Nat) (a0 : Nat) (a1 : Int32) (a2 : Int32) (w : gW) : Option (Unit × gW) :=
  gd ((sh w a0).1 < 7) <|
  kl (f_E_init N a0 4 a1 a2 w) fun x1 w2 =>
  some ((), w2)
def f_Li_init (N : Nat) (a0 : Nat) (a1 : Int32) (a2 : Int32) (w : gW) : Option (Unit × gW) := f_Li_init_b0 N a0 a1 a2 w
def f_Pm_purseBehind_b0 (N : Nat) (a0 : Nat) (a1 : Int32) (w : gW) : Option (Int32 × gW) :=
  gd ((sh w a0).1 = 10) <|
  rr (gR w a0 5) fun x2 =>
  gd ((sh w x2).1 = 9) <|
  rr (gR w x2 2) fun x5 =>
  rr (gR w a0 6) fun x7 =>
  gd ((sh w x7).1 < 7) <|
  bd (gI w x7 1) fun x10 =>
  gd ((sh w x5).1 = 56) <|
  gd (¬ (x10 < 0 ∨ (sh w x5).2 ≤ x10.toNatClampNeg)) <|
  rr (gR w x5 x10.toNatClampNeg) fun x13 =>
  gd ((sh w x13).1 = 50) <|
  gd (¬ (a1 < 0 ∨ (sh w x13).2 ≤ a1.toNatClampNeg)) <|
  bd (gI w x13 a1.toNatClampNeg) fun x17 =>
  rr (gR w a0 1) fun x18 =>
  gd ((sh w x18).1 = 50) <|
  gd (¬ (a1 < 0 ∨ (sh w x18).2 ≤ a1.toNatClampNeg)) <|
  bd (gI w x18 a1.toNatClampNeg) fun x22 =>
  bd (x17 - x22) fun x23 =>
  rr (gR w a0 2) fun x24 =>
  gd ((sh w x24).1 = 50) <|
  gd (¬ (a1 < 0 ∨ (sh w x24).2 ≤ a1.toNatClampNeg)) <|
  bd (gI w x24 a1.toNatClampNeg) fun x28 =>
  bd (x23 + x28) fun x29 =>
  some (x29, w)
def f_Pm_purseBehind (N : Nat) (a0 : Nat) (a1 : Int32) (w : gW) : Option (Int32 × gW) := f_Pm_purseBehind_b0 N a0 a1 w
def f_Pm_weightBehind_b4 (N : Nat) (rec4 : Nat × Int32 × Int32 × gW → Option (Int32 × gW)) (a0 : Nat) (a1 : Int32) (a2 : Int32) (w : gW) : Option (Int32 × gW) :=
  cd ((6 : Int32) ≤ a2) (
    some (a1, w)) <|
  gd ((sh w a0).1 = 10) <|
  kl (f_Pm_purseBehind N a0 a2 w) fun x1 w2 =>
  gd ((sh w2 a0).1 = 10) <|
  rr (gR w2 a0 5) fun x6 =>
  gd ((sh w2 x6).1 = 9) <|
  rr (gR w2 x6 14) fun x9 =>
  gd ((sh w2 x9).1 = 7) <|
  rr (gR w2 x9 0) fun x12 =>
  gd ((sh w2 x12).1 = 50) <|
  gd (¬ (a2 < 0 ∨ (sh w2 x12).2 ≤ a2.toNatClampNeg)) <|
  bd (gI w2 x12 a2.toNatClampNeg) fun x16 =>
  bd (x1 * x16) fun x17 =>
  bd (a1 + x17) fun x18 =>
  bd (a2 + 1) fun x19 =>
  rec4 (a0, x18, x19, w2)
def f_Pm_weightBehind_l4 (N : Nat) (a0 : Nat) (a1 : Int32) (a2 : Int32) (w : gW) : Option (Int32 × gW) :=
  itr (fun rec (q : Nat × Int32 × Int32 × gW) => f_Pm_weightBehind_b4 N rec q.1 q.2.1 q.2.2.1 q.2.2.2) N (a0, a1, a2, w)
def f_Pm_weightBehind_b0 (N : Nat) (a0 : Nat) (w : gW) : Option (Int32 × gW) :=
  f_Pm_weightBehind_l4 N a0 0 0 w
def f_Pm_weightBehind (N : Nat) (a0 : Nat) (w : gW) : Option (Int32 × gW) := f_Pm_weightBehind_b0 N a0 w
def f_Li_rank_b0 (N : Nat) (a1 : Nat) (w : gW) : Option (Int64 × gW) :=
  gd ((sh w a1).1 = 10) <|
  kl (f_Pm_weightBehind N a1 w) fun x1 w2 =>
  bd (x1.toInt64) fun x5 =>
  some (x5, w2)
def f_Li_rank (N : Nat) (a0 : Nat) (a1 : Nat) (w : gW) : Option (Int64 × gW) := f_Li_rank_b0 N a1 w
def f_Li_thinksOfWeight_b0 (N : Nat) (w : gW) : Option (Int32 × gW) :=
  some (1, w)
def f_Li_thinksOfWeight (N : Nat) (a0 : Nat) (w : gW) : Option (Int32 × gW) := f_Li_thinksOfWeight_b0 N w
def f_P_partsWith_b0 (N : Nat) (w : gW) : Option (Int32 × gW) :=
  some (1, w)
def f_P_partsWith (N : Nat) (a0 : Nat) (a1 : Nat) (a2 : Int32) (w : gW) : Option (Int32 × gW) := f_P_partsWith_b0 N w
def f_P_rank_b0 (N : Nat) (a1 : Nat) (w : gW) : Option (Int64 × gW) :=
  gd ((sh w a1).1 = 10) <|
  bd (gI w a1 8) fun x2 =>
  bd (gI w a1 9) fun x3 =>
  kl (f_P_ranked N x2 x3 w) fun x4 w5 =>
  some (x4, w5)
def f_P_rank (N : Nat) (a0 : Nat) (a1 : Nat) (w : gW) : Option (Int64 × gW) := f_P_rank_b0 N a1 w
def f_P_thinksOfWeight_b0 (N : Nat) (w : gW) : Option (Int32 × gW) :=
  some (0, w)
def f_P_thinksOfWeight (N : Nat) (a0 : Nat) (w : gW) : Option (Int32 × gW) := f_P_thinksOfWeight_b0 N w
def f_Pm_init_b0 (N : Nat) (a0 : Nat) (w : gW) : Option (Unit × gW) :=
  bd (nx w) fun p1 =>
  bd (nw w 50 6) fun w2 =>
  gd ((sh w2 a0).1 = 10) <|
  bd (sR w2 a0 0 (some p1)) fun w4 =>
  bd (nx w4) fun p5 =>
  bd (nw w4 50 6) fun w6 =>
  gd ((sh w6 a0).1 = 10) <|
  bd (sR w6 a0 1 (some p5)) fun w8 =>
  bd (nx w8) fun p9 =>
  bd (nw w8 50 6) fun w10 =>
  gd ((sh w10 a0).1 = 10) <|
  bd (sR w10 a0 2 (some p9)) fun w12 =>
  bd (nx w12) fun p13 =>
  bd (nw w12 50 6) fun w14 =>
  gd ((sh w14 a0).1 = 10) <|
  bd (sR w14 a0 3 (some p13)) fun w16 =>
  bd (nx w16) fun p17 =>
  bd (nw w16 50 6) fun w18 =>
  gd ((sh w18 a0).1 = 10) <|
  bd (sR w18 a0 4 (some p17)) fun w20 =>
  gd ((sh w20 a0).1 = 10) <|
  bd (sR w20 a0 5 none) fun w22 =>
  gd ((sh w22 a0).1 = 10) <|
  bd (sR w22 a0 6 none) fun w24 =>
  gd ((sh w24 a0).1 = 10) <|
  bd (sI w24 a0 7 0) fun w26 =>
  gd ((sh w26 a0).1 = 10) <|
  bd (sI w26 a0 8 0) fun w28 =>
  gd ((sh w28 a0).1 = 10) <|
  bd (sI w28 a0 9 0) fun w30 =>
  some ((), w30)
def f_Pm_init (N : Nat) (a0 : Nat) (w : gW) : Option (Unit × gW) := f_Pm_init_b0 N a0 w
def f_Pm_advance_b2 (N : Nat) (rec2 : Nat × Int32 × gW → Option (Unit × gW)) (a0 : Nat) (a1 : Int32) (w : gW) : Option (Unit × gW) :=
  cd (a1 < 0) (
    some ((), w)) <|
  gd ((sh w a0).1 = 10) <|
  rr (gR w a0 1) fun x2 =>
  gd ((sh w x2).1 = 50) <|
  gd (¬ (a1 < 0 ∨ (sh w x2).2 ≤ a1.toNatClampNeg)) <|
  bd (gI w x2 a1.toNatClampNeg) fun x6 =>
  rr (gR w a0 0) fun x7 =>
  gd ((sh w x7).1 = 50) <|
  gd (¬ (a1 < 0 ∨ (sh w x7).2 ≤ a1.toNatClampNeg)) <|
  bd (gI w x7 a1.toNatClampNeg) fun x11 =>
  cd (x11 ≤ x6) (
    bd (gI w a0 8) fun x12 =>
    bd (gI w x2 a1.toNatClampNeg) fun x13 =>
    gd (¬ (a1 < 0 ∨ 6 ≤ a1.toNatClampNeg)) <|
    bd (gWorth a1.toNatClampNeg) fun x15 =>
    bd (x13 * x15) fun x16 =>
    bd (x12 - x16) fun x17 =>
    bd (sI w a0 8 x17) fun w18 =>
    gd ((sh w18 a0).1 = 10) <|
    bd (gI w18 a0 9) fun x20 =>
    rr (gR w18 a0 1) fun x21 =>
    gd ((sh w18 x21).1 = 50) <|
    gd (¬ (a1 < 0 ∨ (sh w18 x21).2 ≤ a1.toNatClampNeg)) <|
    bd (gI w18 x21 a1.toNatClampNeg) fun x25 =>
    bd (x20 - x25) fun x26 =>
    bd (sI w18 a0 9 x26) fun w27 =>
    gd ((sh w27 a0).1 = 10) <|
    rr (gR w27 a0 1) fun x29 =>
    gd ((sh w27 x29).1 = 50) <|
    gd (¬ (a1 < 0 ∨ (sh w27 x29).2 ≤ a1.toNatClampNeg)) <|
    bd (sI w27 x29 a1.toNatClampNeg 0) fun w33 =>
    bd (a1 + (-1)) fun x34 =>
    rec2 (a0, x34, w33)) <|
  bd (gI w x2 a1.toNatClampNeg) fun x35 =>
  bd (x35 + 1) fun x36 =>
  bd (sI w x2 a1.toNatClampNeg x36) fun w37 =>
  gd ((sh w37 a0).1 = 10) <|
  bd (gI w37 a0 8) fun x39 =>
  gd (¬ (a1 < 0 ∨ 6 ≤ a1.toNatClampNeg)) <|
  bd (gWorth a1.toNatClampNeg) fun x41 =>
  bd (x39 + x41) fun x42 =>
  bd (sI w37 a0 8 x42) fun w43 =>
  gd ((sh w43 a0).1 = 10) <|
  bd (gI w43 a0 9) fun x45 =>
  bd (x45 + 1) fun x46 =>
  bd (sI w43 a0 9 x46) fun w47 =>
  some ((), w47)
def f_Pm_advance_l2 (N : Nat) (a0 : Nat) (a1 : Int32) (w : gW) : Option (Unit × gW) :=
  itr (fun rec (q : Nat × Int32 × gW) => f_Pm_advance_b2 N rec q.1 q.2.1 q.2.2) N (a0, a1, w)
def f_Pm_advance_b0 (N : Nat) (a0 : Nat) (w : gW) : Option (Unit × gW) :=
  f_Pm_advance_l2 N a0 5 w
def f_Pm_advance (N : Nat) (a0 : Nat) (w : gW) : Option (Unit × gW) := f_Pm_advance_b0 N a0 w
def f_To_partsWith_b0 (N : Nat) (a0 : Nat) (a1 : Nat) (a2 : Int32) (w : gW) : Option (Int32 × gW) :=
  gd ((sh w a1).1 = 9) <|
  rr (gR w a1 3) fun x2 =>
  gd ((sh w a0).1 < 7) <|
  bd (gI w a0 1) fun x5 =>
  gd ((sh w x2).1 = 56) <|
  gd (¬ (x5 < 0 ∨ (sh w x2).2 ≤ x5.toNatClampNeg)) <|
  rr (gR w x2 x5.toNatClampNeg) fun x8 =>
  rr (gR w a1 4) fun x10 =>
  bd (gI w a0 1) fun x12 =>
  gd ((sh w x10).1 = 50) <|
  gd (¬ (x12 < 0 ∨ (sh w x10).2 ≤ x12.toNatClampNeg)) <|
  bd (gI w x10 x12.toNatClampNeg) fun x15 =>
  bd (x15 - x15 / 4 * 4) fun x16 =>
  gd ((sh w x8).1 = 50) <|
  gd (¬ (x16 < 0 ∨ (sh w x8).2 ≤ x16.toNatClampNeg)) <|
  bd (gI w x8 x16.toNatClampNeg) fun x19 =>
  cd (a2 = x19) (
    some (0, w)) <|
  some (1, w)
def f_To_partsWith (N : Nat) (a0 : Nat) (a1 : Nat) (a2 : Int32) (w : gW) : Option (Int32 × gW) := f_To_partsWith_b0 N a0 a1 a2 w
def f_Tn_factsOf_b20 (N : Nat) (rec20 : Nat × Int32 × gW → Option (Unit × gW)) (a0 : Nat) (a2 : Int32) (w : gW) : Option (Unit × gW) :=
  gd ((sh w a0).1 = 7) <|
  rr (gR w a0 9) fun x16 =>
  gd ((sh w x16).1 = 50) <|
  bd (Int32.ofNat (sh w x16).2) fun x19 =>
  cd (x19 ≤ a2) (
    some ((), w)) <|
  gd (¬ (a2 < 0 ∨ (sh w x16).2 ≤ a2.toNatClampNeg)) <|
  bd (sI w x16 a2.toNatClampNeg 0) fun w21 =>
  bd (a2 + 1) fun x22 =>
  rec20 (a0, x22, w21)
def f_Tn_factsOf_l20 (N : Nat) (a0 : Nat) (a2 : Int32) (w : gW) : Option (Unit × gW) :=
  itr (fun rec (q : Nat × Int32 × gW) => f_Tn_factsOf_b20 N rec q.1 q.2.1 q.2.2) N (a0, a2, w)
def f_Tn_factsOf_b0 (N : Nat) (a0 : Nat) (a1 : Int32) (w : gW) : Option (Unit × gW) :=
  gd ((sh w a0).1 = 7) <|
  rr (gR w a0 9) fun x2 =>
  gd ((sh w x2).1 = 50) <|
  gd (¬ ((0 : Int32) < 0 ∨ (sh w x2).2 ≤ (0 : Int32).toNatClampNeg)) <|
  bd (sI w x2 (0 : Int32).toNatClampNeg a1) fun w6 =>
  gd ((sh w6 a0).1 = 7) <|
  rr (gR w6 a0 9) fun x8 =>
  gd (¬ (a1 < 0 ∨ 6 ≤ a1.toNatClampNeg)) <|
  bd (gWorth a1.toNatClampNeg) fun x11 =>
  gd ((sh w6 x8).1 = 50) <|
  gd (¬ ((1 : Int32) < 0 ∨ (sh w6 x8).2 ≤ (1 : Int32).toNatClampNeg)) <|
  bd (sI w6 x8 (1 : Int32).toNatClampNeg x11) fun w14 =>
  f_Tn_factsOf_l20 N a0 2 w14
def f_Tn_factsOf (N : Nat) (a0 : Nat) (a1 : Int32) (w : gW) : Option (Unit × gW) := f_Tn_factsOf_b0 N a0 a1 w
def f_Tn_testHolds_b0 (N : Nat) (a0 : Nat) (a1 : Int32) (w : gW) : Option (Int32 × gW) :=
  gd ((sh w a0).1 = 7) <|
  rr (gR w a0 9) fun x2 =>
  bd (a1 / 300) fun x4 =>
  gd ((sh w x2).1 = 50) <|
  gd (¬ (x4 < 0 ∨ (sh w x2).2 ≤ x4.toNatClampNeg)) <|
  bd (gI w x2 x4.toNatClampNeg) fun x7 =>
  bd (a1 - a1 / 100 * 100) fun x8 =>
  bd (a1 / 100) fun x9 =>
  bd (x9 - x9 / 3 * 3) fun x10 =>
  cd (x10 = 0) (
    cd (x8 ≤ x7) (
      some (0, w)) <|
    some (1, w)) <|
  cd (x10 = 1) (
    cd (x7 = x8) (
    some (1, w)) <|
      some (0, w)) <|
  cd (x7 ≤ x8) (
    some (0, w)) <|
  some (1, w)
def f_Tn_testHolds (N : Nat) (a0 : Nat) (a1 : Int32) (w : gW) : Option (Int32 × gW) := f_Tn_testHolds_b0 N a0 a1 w
def f_Tn_holds_b5 (N : Nat) (rec5 : Nat × Int32 × Int32 × Int32 × gW → Option (Int32 × gW)) (a0 : Nat) (a2 : Int32) (a3 : Int32) (a4 : Int32) (w : gW) : Option (Int32 × gW) :=
  cd (a2 ≤ a4) (
    bd (a3 &&& 1) fun x1 =>
    cd (x1 = 0) (
      some (0, w)) <|
    some (1, w)) <|
  gd ((sh w a0).1 = 7) <|
  rr (gR w a0 7) fun x3 =>
  gd ((sh w x3).1 = 50) <|
  gd (¬ (a4 < 0 ∨ (sh w x3).2 ≤ a4.toNatClampNeg)) <|
  bd (gI w x3 a4.toNatClampNeg) fun x7 =>
  cd (x7 < 3) (
    cd (x7 = 2) (
    bd (a3 ^^^ 1) fun x15 =>
    bd (a4 + 1) fun x16 =>
    rec5 (a0, a2, x15, x16, w)) <|
      bd (a3 &&& 1) fun x8 =>
      bd ((a3.toUInt32 >>> ((1 : Int32).toUInt32 &&& Int32.toUInt32 31)).toInt32) fun x9 =>
      cd (x7 = 0) (
      bd (x9 ||| x8) fun x13 =>
      bd (a4 + 1) fun x14 =>
      rec5 (a0, a2, x13, x14, w)) <|
        cd (x8 = 0) (
        bd (x9 &&& (-2)) fun x11 =>
        bd (a4 + 1) fun x12 =>
        rec5 (a0, a2, x11, x12, w)) <|
          bd (a4 + 1) fun x10 =>
          rec5 (a0, a2, x9, x10, w)) <|
  bd (a3 <<< (1 &&& 31)) fun x17 =>
  bd (x7 - 3) fun x18 =>
  kl (f_Tn_testHolds N a0 x18 w) fun x19 w20 =>
  cd (x19 = 0) (
    bd (x17 ||| 0) fun x22 =>
    bd (a4 + 1) fun x23 =>
    rec5 (a0, a2, x22, x23, w20)) <|
  bd (x17 ||| 1) fun x24 =>
  bd (a4 + 1) fun x25 =>
  rec5 (a0, a2, x24, x25, w20)
def f_Tn_holds_l5 (N : Nat) (a0 : Nat) (a2 : Int32) (a3 : Int32) (a4 : Int32) (w : gW) : Option (Int32 × gW) :=
  itr (fun rec (q : Nat × Int32 × Int32 × Int32 × gW) => f_Tn_holds_b5 N rec q.1 q.2.1 q.2.2.1 q.2.2.2.1 q.2.2.2.2) N (a0, a2, a3, a4, w)
def f_Tn_holds_b0 (N : Nat) (a0 : Nat) (a1 : Int32) (a2 : Int32) (w : gW) : Option (Int32 × gW) :=
  f_Tn_holds_l5 N a0 a2 0 a1 w
def f_Tn_holds (N : Nat) (a0 : Nat) (a1 : Int32) (a2 : Int32) (w : gW) : Option (Int32 × gW) := f_Tn_holds_b0 N a0 a1 a2 w
def f_Tn_together_b4 (N : Nat) (rec4 : Nat × Int32 × Int32 × Int32 × gW → Option (Int32 × gW)) (a0 : Nat) (a1 : Int32) (a2 : Int32) (a3 : Int32) (w : gW) : Option (Int32 × gW) :=
  gd ((sh w a0).1 = 7) <|
  bd (gI w a0 6) fun x2 =>
  cd (x2 ≤ a3) (
    some (a2, w)) <|
  rr (gR w a0 2) fun x3 =>
  gd ((sh w x3).1 = 50) <|
  gd (¬ (a3 < 0 ∨ (sh w x3).2 ≤ a3.toNatClampNeg)) <|
  bd (gI w x3 a3.toNatClampNeg) fun x7 =>
  cd (x7 = a1) (
  rr (gR w a0 4) fun x9 =>
  gd ((sh w x9).1 = 50) <|
  gd (¬ (a3 < 0 ∨ (sh w x9).2 ≤ a3.toNatClampNeg)) <|
  bd (gI w x9 a3.toNatClampNeg) fun x13 =>
  rr (gR w a0 5) fun x14 =>
  gd ((sh w x14).1 = 50) <|
  gd (¬ (a3 < 0 ∨ (sh w x14).2 ≤ a3.toNatClampNeg)) <|
  bd (gI w x14 a3.toNatClampNeg) fun x18 =>
  kl (f_Tn_holds N a0 x13 x18 w) fun x19 w20 =>
  cd (x19 = 0) (
    bd (a3 + 1) fun x22 =>
    rec4 (a0, a1, a2, x22, w20)) <|
  gd ((sh w20 a0).1 = 7) <|
  rr (gR w20 a0 3) fun x24 =>
  gd ((sh w20 x24).1 = 50) <|
  gd (¬ (a3 < 0 ∨ (sh w20 x24).2 ≤ a3.toNatClampNeg)) <|
  bd (gI w20 x24 a3.toNatClampNeg) fun x28 =>
  bd (a2 + x28) fun x29 =>
  bd (a3 + 1) fun x30 =>
  rec4 (a0, a1, x29, x30, w20)) <|
    bd (a3 + 1) fun x8 =>
    rec4 (a0, a1, a2, x8, w)
def f_Tn_together_l4 (N : Nat) (a0 : Nat) (a1 : Int32) (a2 : Int32) (a3 : Int32) (w : gW) : Option (Int32 × gW) :=
  itr (fun rec (q : Nat × Int32 × Int32 × Int32 × gW) => f_Tn_together_b4 N rec q.1 q.2.1 q.2.2.1 q.2.2.2.1 q.2.2.2.2) N (a0, a1, a2, a3, w)
def f_Tn_together_b0 (N : Nat) (a0 : Nat) (a1 : Int32) (w : gW) : Option (Int32 × gW) :=
  f_Tn_together_l4 N a0 a1 0 0 w
def f_Tn_together (N : Nat) (a0 : Nat) (a1 : Int32) (w : gW) : Option (Int32 × gW) := f_Tn_together_b0 N a0 a1 w
def f_Tn_kept_b0 (N : Nat) (a0 : Nat) (a1 : Nat) (a2 : Nat) (a3 : Int32) (w : gW) : Option (Int32 × gW) :=
  gd ((sh w a0).1 = 7) <|
  kl (f_Tn_factsOf N a0 a3 w) fun x1 w2 =>
  gd ((sh w2 a0).1 = 7) <|
  rr (gR w2 a0 9) fun x6 =>
  gd ((sh w2 a1).1 = 9) <|
  rr (gR w2 a1 5) fun x9 =>
  gd ((sh w2 x9).1 = 50) <|
  gd (¬ (a3 < 0 ∨ (sh w2 x9).2 ≤ a3.toNatClampNeg)) <|
  bd (gI w2 x9 a3.toNatClampNeg) fun x13 =>
  gd ((sh w2 x6).1 = 50) <|
  gd (¬ ((2 : Int32) < 0 ∨ (sh w2 x6).2 ≤ (2 : Int32).toNatClampNeg)) <|
  bd (sI w2 x6 (2 : Int32).toNatClampNeg x13) fun w16 =>
  gd ((sh w16 a0).1 = 7) <|
  rr (gR w16 a0 9) fun x18 =>
  gd ((sh w16 a2).1 < 7) <|
  bd (gI w16 a2 1) fun x21 =>
  gd ((sh w16 x18).1 = 50) <|
  gd (¬ ((3 : Int32) < 0 ∨ (sh w16 x18).2 ≤ (3 : Int32).toNatClampNeg)) <|
  bd (sI w16 x18 (3 : Int32).toNatClampNeg x21) fun w24 =>
  gd ((sh w24 a0).1 = 7) <|
  rr (gR w24 a0 9) fun x26 =>
  gd ((sh w24 a2).1 < 7) <|
  bd (gI w24 a2 0) fun x29 =>
  gd ((sh w24 x26).1 = 50) <|
  gd (¬ ((4 : Int32) < 0 ∨ (sh w24 x26).2 ≤ (4 : Int32).toNatClampNeg)) <|
  bd (sI w24 x26 (4 : Int32).toNatClampNeg x29) fun w32 =>
  gd ((sh w32 a0).1 = 7) <|
  rr (gR w32 a0 9) fun x34 =>
  gd ((sh w32 a1).1 = 9) <|
  rr (gR w32 a1 4) fun x37 =>
  gd ((sh w32 a2).1 < 7) <|
  bd (gI w32 a2 1) fun x40 =>
  gd ((sh w32 x37).1 = 50) <|
  gd (¬ (x40 < 0 ∨ (sh w32 x37).2 ≤ x40.toNatClampNeg)) <|
  bd (gI w32 x37 x40.toNatClampNeg) fun x43 =>
  bd (x43 - x43 / 7 * 7) fun x44 =>
  gd ((sh w32 x34).1 = 50) <|
  gd (¬ ((5 : Int32) < 0 ∨ (sh w32 x34).2 ≤ (5 : Int32).toNatClampNeg)) <|
  bd (sI w32 x34 (5 : Int32).toNatClampNeg x44) fun w47 =>
  gd ((sh w47 a0).1 = 7) <|
  kl (f_Tn_together N a0 1 w47) fun x48 w49 =>
  some (x48, w49)
def f_Tn_kept (N : Nat) (a0 : Nat) (a1 : Nat) (a2 : Nat) (a3 : Int32) (w : gW) : Option (Int32 × gW) := f_Tn_kept_b0 N a0 a1 a2 a3 w
def v_partsWith (N : Nat) (a0 : Nat) (a1 : Nat) (a2 : Int32) (w : gW) : Option (Int32 × gW) :=
  cd ((sh w a0).1 = 0) (f_P_partsWith N a0 a1 a2 w) <|
  cd ((sh w a0).1 = 1) (f_P_partsWith N a0 a1 a2 w) <|
  cd ((sh w a0).1 = 2) (f_P_partsWith N a0 a1 a2 w) <|
  cd ((sh w a0).1 = 3) (f_Ke_partsWith N a0 a1 a2 w) <|
  cd ((sh w a0).1 = 4) (f_P_partsWith N a0 a1 a2 w) <|
  cd ((sh w a0).1 = 5) (f_P_partsWith N a0 a1 a2 w) <|
  cd ((sh w a0).1 = 6) (f_To_partsWith N a0 a1 a2 w) <|
  none
def f_Pm_begin_b127 (N : Nat) (rec26 : Nat × Nat × Nat × Int32 × Int32 × Int32 × gW → Option (Int32 × gW)) (a0 : Nat) (a1 : Nat) (a2 : Nat) (a3 : Int32) (a4 : Int32) (a5 : Int32) (z0 : Int32) (z1 : Int32) (z2 : Nat) (w : gW) : Option (Int32 × gW) :=
  gd ((sh w z2).1 = 50) <|
  gd (¬ (z1 < 0 ∨ (sh w z2).2 ≤ z1.toNatClampNeg)) <|
  bd (sI w z2 z1.toNatClampNeg z0) fun w45 =>
  gd ((sh w45 a0).1 = 10) <|
  rr (gR w45 a0 0) fun x47 =>
  gd ((sh w45 x47).1 = 50) <|
  gd (¬ (a5 < 0 ∨ (sh w45 x47).2 ≤ a5.toNatClampNeg)) <|
  bd (gI w45 x47 a5.toNatClampNeg) fun x51 =>
  bd (x51 + 1) fun x52 =>
  bd (a4 * x52) fun x53 =>
  bd (a5 + 1) fun x54 =>
  rec26 (a0, a1, a2, a3, x53, x54, w45)
def f_Pm_begin_b94 (N : Nat) (rec26 : Nat × Nat × Nat × Int32 × Int32 × Int32 × gW → Option (Int32 × gW)) (a0 : Nat) (a1 : Nat) (a2 : Nat) (a3 : Int32) (a4 : Int32) (a5 : Int32) (a6 : Int32) (z0 : Int32) (w : gW) : Option (Int32 × gW) :=
  gd ((sh w a0).1 = 10) <|
  rr (gR w a0 0) fun x41 =>
  cd (z0 = 0) (
    f_Pm_begin_b127 N rec26 a0 a1 a2 a3 a4 a5 0 a5 x41 w) <|
  gd ((sh w a1).1 = 9) <|
  rr (gR w a1 14) fun x56 =>
  gd ((sh w x56).1 = 7) <|
  bd (gI w x56 1) fun x59 =>
  bd (if a6 < x59 then a6 else x59) fun x60 =>
  bd (if (0 : Int32) < x60 then x60 else (0 : Int32)) fun x61 =>
  f_Pm_begin_b127 N rec26 a0 a1 a2 a3 a4 a5 x61 a5 x41 w
def f_Pm_begin_b89 (N : Nat) (rec26 : Nat × Nat × Nat × Int32 × Int32 × Int32 × gW → Option (Int32 × gW)) (a0 : Nat) (a1 : Nat) (a2 : Nat) (a3 : Int32) (a4 : Int32) (a5 : Int32) (a6 : Int32) (w : gW) : Option (Int32 × gW) :=
  f_Pm_begin_b94 N rec26 a0 a1 a2 a3 a4 a5 a6 1 w
def f_Pm_begin_b26 (N : Nat) (rec26 : Nat × Nat × Nat × Int32 × Int32 × Int32 × gW → Option (Int32 × gW)) (a0 : Nat) (a1 : Nat) (a2 : Nat) (a3 : Int32) (a4 : Int32) (a5 : Int32) (w : gW) : Option (Int32 × gW) :=
  cd ((6 : Int32) ≤ a5) (
    some (a4, w)) <|
  gd ((sh w a0).1 = 10) <|
  rr (gR w a0 1) fun x10 =>
  gd ((sh w x10).1 = 50) <|
  gd (¬ (a5 < 0 ∨ (sh w x10).2 ≤ a5.toNatClampNeg)) <|
  bd (sI w x10 a5.toNatClampNeg 0) fun w14 =>
  gd ((sh w14 a0).1 = 10) <|
  rr (gR w14 a0 2) fun x16 =>
  gd ((sh w14 x16).1 = 50) <|
  gd (¬ (a5 < 0 ∨ (sh w14 x16).2 ≤ a5.toNatClampNeg)) <|
  bd (sI w14 x16 a5.toNatClampNeg 0) fun w20 =>
  gd ((sh w20 a1).1 = 9) <|
  rr (gR w20 a1 2) fun x22 =>
  gd ((sh w20 a2).1 < 7) <|
  bd (gI w20 a2 1) fun x25 =>
  gd ((sh w20 x22).1 = 56) <|
  gd (¬ (x25 < 0 ∨ (sh w20 x22).2 ≤ x25.toNatClampNeg)) <|
  rr (gR w20 x22 x25.toNatClampNeg) fun x28 =>
  gd ((sh w20 x28).1 = 50) <|
  gd (¬ (a5 < 0 ∨ (sh w20 x28).2 ≤ a5.toNatClampNeg)) <|
  bd (gI w20 x28 a5.toNatClampNeg) fun x32 =>
  rr (gR w20 a1 14) fun x33 =>
  gd ((sh w20 x33).1 = 7) <|
  kl (f_Tn_kept N x33 a1 a2 a5 w20) fun x35 w36 =>
  bd (x32 - x35) fun x39 =>
  cd (a3 = 0) (
    f_Pm_begin_b89 N rec26 a0 a1 a2 a3 a4 a5 x39 w36) <|
  kl (v_partsWith N a2 a1 a5 w36) fun x62 w63 =>
  cd (x62 = 0) (
    f_Pm_begin_b94 N rec26 a0 a1 a2 a3 a4 a5 x39 0 w63) <|
  f_Pm_begin_b89 N rec26 a0 a1 a2 a3 a4 a5 x39 w63
def f_Pm_begin_l26 (N : Nat) (a0 : Nat) (a1 : Nat) (a2 : Nat) (a3 : Int32) (a4 : Int32) (a5 : Int32) (w : gW) : Option (Int32 × gW) :=
  itr (fun rec (q : Nat × Nat × Nat × Int32 × Int32 × Int32 × gW) => f_Pm_begin_b26 N rec q.1 q.2.1 q.2.2.1 q.2.2.2.1 q.2.2.2.2.1 q.2.2.2.2.2.1 q.2.2.2.2.2.2) N (a0, a1, a2, a3, a4, a5, w)
def f_Pm_begin_b0 (N : Nat) (a0 : Nat) (a1 : Nat) (a2 : Nat) (a3 : Int32) (w : gW) : Option (Int32 × gW) :=
  gd ((sh w a0).1 = 10) <|
  bd (sR w a0 5 (some a1)) fun w2 =>
  gd ((sh w2 a0).1 = 10) <|
  bd (sR w2 a0 6 (some a2)) fun w4 =>
  gd ((sh w4 a0).1 = 10) <|
  bd (sI w4 a0 8 0) fun w6 =>
  gd ((sh w6 a0).1 = 10) <|
  bd (sI w6 a0 9 0) fun w8 =>
  f_Pm_begin_l26 N a0 a1 a2 a3 1 0 w8
def f_Pm_begin (N : Nat) (a0 : Nat) (a1 : Nat) (a2 : Nat) (a3 : Int32) (w : gW) : Option (Int32 × gW) := f_Pm_begin_b0 N a0 a1 a2 a3 w
def f_Pm_nothingOverflows_b2 (N : Nat) (rec2 : Nat × Int32 × gW → Option (Int32 × gW)) (a0 : Nat) (a1 : Int32) (w : gW) : Option (Int32 × gW) :=
  cd ((6 : Int32) ≤ a1) (
    some (1, w)) <|
  gd ((sh w a0).1 = 10) <|
  rr (gR w a0 5) fun x2 =>
  gd ((sh w x2).1 = 9) <|
  rr (gR w x2 5) fun x5 =>
  gd ((sh w x5).1 = 50) <|
  gd (¬ (a1 < 0 ∨ (sh w x5).2 ≤ a1.toNatClampNeg)) <|
  bd (gI w x5 a1.toNatClampNeg) fun x9 =>
  rr (gR w a0 1) fun x10 =>
  gd ((sh w x10).1 = 50) <|
  gd (¬ (a1 < 0 ∨ (sh w x10).2 ≤ a1.toNatClampNeg)) <|
  bd (gI w x10 a1.toNatClampNeg) fun x14 =>
  bd (x9 + x14) fun x15 =>
  rr (gR w a0 2) fun x16 =>
  gd ((sh w x16).1 = 50) <|
  gd (¬ (a1 < 0 ∨ (sh w x16).2 ≤ a1.toNatClampNeg)) <|
  bd (gI w x16 a1.toNatClampNeg) fun x20 =>
  bd (x15 - x20) fun x21 =>
  cd ((99 : Int32) < x21) (
    some (0, w)) <|
  kl (f_Pm_purseBehind N a0 a1 w) fun x22 w23 =>
  cd (x22 ≤ 99) (
    bd (a1 + 1) fun x25 =>
    rec2 (a0, x25, w23)) <|
  some (0, w23)
def f_Pm_nothingOverflows_l2 (N : Nat) (a0 : Nat) (a1 : Int32) (w : gW) : Option (Int32 × gW) :=
  itr (fun rec (q : Nat × Int32 × gW) => f_Pm_nothingOverflows_b2 N rec q.1 q.2.1 q.2.2) N (a0, a1, w)
def f_Pm_nothingOverflows_b0 (N : Nat) (a0 : Nat) (w : gW) : Option (Int32 × gW) :=
  f_Pm_nothingOverflows_l2 N a0 0 w
def f_Pm_nothingOverflows (N : Nat) (a0 : Nat) (w : gW) : Option (Int32 × gW) := f_Pm_nothingOverflows_b0 N a0 w
def f_Pm_pays_b18 (N : Nat) (rec18 : Nat × Int32 × Int32 × gW → Option (Int32 × gW)) (a0 : Nat) (a1 : Int32) (a2 : Int32) (w : gW) : Option (Int32 × gW) :=
  cd (a2 < 0) (
    cd (a1 = 0) (
    gd ((sh w a0).1 = 10) <|
    kl (f_Pm_nothingOverflows N a0 w) fun x5 w6 =>
    cd (x5 = 0) (
      some (0, w6)) <|
    some (1, w6)) <|
      some (0, w)) <|
  gd ((sh w a0).1 = 10) <|
  rr (gR w a0 2) fun x10 =>
  rr (gR w a0 5) fun x12 =>
  gd ((sh w x12).1 = 9) <|
  rr (gR w x12 5) fun x15 =>
  gd ((sh w x15).1 = 50) <|
  gd (¬ (a2 < 0 ∨ (sh w x15).2 ≤ a2.toNatClampNeg)) <|
  bd (gI w x15 a2.toNatClampNeg) fun x19 =>
  rr (gR w a0 1) fun x20 =>
  gd ((sh w x20).1 = 50) <|
  gd (¬ (a2 < 0 ∨ (sh w x20).2 ≤ a2.toNatClampNeg)) <|
  bd (gI w x20 a2.toNatClampNeg) fun x24 =>
  bd (x19 + x24) fun x25 =>
  gd (¬ (a2 < 0 ∨ 6 ≤ a2.toNatClampNeg)) <|
  bd (gWorth a2.toNatClampNeg) fun x27 =>
  gd (¬ x27 = 0) <|
  bd (a1 / x27) fun x29 =>
  bd (if x29 < x25 then x29 else x25) fun x30 =>
  gd ((sh w x10).1 = 50) <|
  gd (¬ (a2 < 0 ∨ (sh w x10).2 ≤ a2.toNatClampNeg)) <|
  bd (sI w x10 a2.toNatClampNeg x30) fun w33 =>
  gd ((sh w33 a0).1 = 10) <|
  rr (gR w33 a0 2) fun x35 =>
  gd ((sh w33 x35).1 = 50) <|
  gd (¬ (a2 < 0 ∨ (sh w33 x35).2 ≤ a2.toNatClampNeg)) <|
  bd (gI w33 x35 a2.toNatClampNeg) fun x39 =>
  gd (¬ (a2 < 0 ∨ 6 ≤ a2.toNatClampNeg)) <|
  bd (gWorth a2.toNatClampNeg) fun x41 =>
  bd (x39 * x41) fun x42 =>
  bd (a1 - x42) fun x43 =>
  bd (a2 + (-1)) fun x44 =>
  rec18 (a0, x43, x44, w33)
def f_Pm_pays_l18 (N : Nat) (a0 : Nat) (a1 : Int32) (a2 : Int32) (w : gW) : Option (Int32 × gW) :=
  itr (fun rec (q : Nat × Int32 × Int32 × gW) => f_Pm_pays_b18 N rec q.1 q.2.1 q.2.2.1 q.2.2.2) N (a0, a1, a2, w)
def f_Pm_pays_b0 (N : Nat) (a0 : Nat) (w : gW) : Option (Int32 × gW) :=
  gd ((sh w a0).1 = 10) <|
  bd (gI w a0 8) fun x2 =>
  bd (gI w a0 7) fun x3 =>
  bd (x2 - x3) fun x4 =>
  cd ((0 : Int32) ≤ x4) (
    f_Pm_pays_l18 N a0 x4 5 w) <|
  some (0, w)
def f_Pm_pays (N : Nat) (a0 : Nat) (w : gW) : Option (Int32 × gW) := f_Pm_pays_b0 N a0 w
def f_Pm_standAtBest_b12 (N : Nat) (rec12 : Nat × Int32 × gW → Option (Unit × gW)) (a0 : Nat) (a1 : Int32) (w : gW) : Option (Unit × gW) :=
  cd ((6 : Int32) ≤ a1) (
    some ((), w)) <|
  gd ((sh w a0).1 = 10) <|
  rr (gR w a0 1) fun x6 =>
  rr (gR w a0 3) fun x8 =>
  gd ((sh w x8).1 = 50) <|
  gd (¬ (a1 < 0 ∨ (sh w x8).2 ≤ a1.toNatClampNeg)) <|
  bd (gI w x8 a1.toNatClampNeg) fun x12 =>
  gd ((sh w x6).1 = 50) <|
  gd (¬ (a1 < 0 ∨ (sh w x6).2 ≤ a1.toNatClampNeg)) <|
  bd (sI w x6 a1.toNatClampNeg x12) fun w15 =>
  gd ((sh w15 a0).1 = 10) <|
  rr (gR w15 a0 2) fun x17 =>
  rr (gR w15 a0 4) fun x19 =>
  gd ((sh w15 x19).1 = 50) <|
  gd (¬ (a1 < 0 ∨ (sh w15 x19).2 ≤ a1.toNatClampNeg)) <|
  bd (gI w15 x19 a1.toNatClampNeg) fun x23 =>
  gd ((sh w15 x17).1 = 50) <|
  gd (¬ (a1 < 0 ∨ (sh w15 x17).2 ≤ a1.toNatClampNeg)) <|
  bd (sI w15 x17 a1.toNatClampNeg x23) fun w26 =>
  gd ((sh w26 a0).1 = 10) <|
  bd (gI w26 a0 8) fun x28 =>
  rr (gR w26 a0 1) fun x29 =>
  gd ((sh w26 x29).1 = 50) <|
  gd (¬ (a1 < 0 ∨ (sh w26 x29).2 ≤ a1.toNatClampNeg)) <|
  bd (gI w26 x29 a1.toNatClampNeg) fun x33 =>
  gd (¬ (a1 < 0 ∨ 6 ≤ a1.toNatClampNeg)) <|
  bd (gWorth a1.toNatClampNeg) fun x35 =>
  bd (x33 * x35) fun x36 =>
  bd (x28 + x36) fun x37 =>
  bd (sI w26 a0 8 x37) fun w38 =>
  gd ((sh w38 a0).1 = 10) <|
  bd (gI w38 a0 9) fun x40 =>
  rr (gR w38 a0 1) fun x41 =>
  gd ((sh w38 x41).1 = 50) <|
  gd (¬ (a1 < 0 ∨ (sh w38 x41).2 ≤ a1.toNatClampNeg)) <|
  bd (gI w38 x41 a1.toNatClampNeg) fun x45 =>
  bd (x40 + x45) fun x46 =>
  bd (sI w38 a0 9 x46) fun w47 =>
  bd (a1 + 1) fun x48 =>
  rec12 (a0, x48, w47)
def f_Pm_standAtBest_l12 (N : Nat) (a0 : Nat) (a1 : Int32) (w : gW) : Option (Unit × gW) :=
  itr (fun rec (q : Nat × Int32 × gW) => f_Pm_standAtBest_b12 N rec q.1 q.2.1 q.2.2) N (a0, a1, w)
def f_Pm_standAtBest_b0 (N : Nat) (a0 : Nat) (w : gW) : Option (Unit × gW) :=
  gd ((sh w a0).1 = 10) <|
  bd (sI w a0 8 0) fun w2 =>
  gd ((sh w2 a0).1 = 10) <|
  bd (sI w2 a0 9 0) fun w4 =>
  f_Pm_standAtBest_l12 N a0 0 w4
def f_Pm_standAtBest (N : Nat) (a0 : Nat) (w : gW) : Option (Unit × gW) := f_Pm_standAtBest_b0 N a0 w
def f_Ro_rank_b0 (N : Nat) (a1 : Nat) (w : gW) : Option (Int64 × gW) :=
  gd ((sh w a1).1 = 10) <|
  bd (gI w a1 9) fun x2 =>
  bd (gI w a1 8) fun x3 =>
  kl (f_P_ranked N x2 x3 w) fun x4 w5 =>
  some (x4, w5)
def f_Ro_rank (N : Nat) (a0 : Nat) (a1 : Nat) (w : gW) : Option (Int64 × gW) := f_Ro_rank_b0 N a1 w
def f_Wi_rank_b0 (N : Nat) (a1 : Nat) (w : gW) : Option (Int64 × gW) :=
  gd ((sh w a1).1 = 10) <|
  bd (gI w a1 9) fun x2 =>
  bd (gI w a1 8) fun x3 =>
  bd (-x3) fun x4 =>
  kl (f_P_ranked N x2 x4 w) fun x5 w6 =>
  some (x5, w6)
def f_Wi_rank (N : Nat) (a0 : Nat) (a1 : Nat) (w : gW) : Option (Int64 × gW) := f_Wi_rank_b0 N a1 w
def v_thinksOfWeight (N : Nat) (a0 : Nat) (w : gW) : Option (Int32 × gW) :=
  cd ((sh w a0).1 = 0) (f_P_thinksOfWeight N a0 w) <|
  cd ((sh w a0).1 = 1) (f_P_thinksOfWeight N a0 w) <|
  cd ((sh w a0).1 = 2) (f_P_thinksOfWeight N a0 w) <|
  cd ((sh w a0).1 = 3) (f_P_thinksOfWeight N a0 w) <|
  cd ((sh w a0).1 = 4) (f_Li_thinksOfWeight N a0 w) <|
  cd ((sh w a0).1 = 5) (f_P_thinksOfWeight N a0 w) <|
  cd ((sh w a0).1 = 6) (f_P_thinksOfWeight N a0 w) <|
  none
def v_rank (N : Nat) (a0 : Nat) (a1 : Nat) (w : gW) : Option (Int64 × gW) :=
  cd ((sh w a0).1 = 0) (f_P_rank N a0 a1 w) <|
  cd ((sh w a0).1 = 1) (f_E_rank N a0 a1 w) <|
  cd ((sh w a0).1 = 2) (f_Ro_rank N a0 a1 w) <|
  cd ((sh w a0).1 = 3) (f_P_rank N a0 a1 w) <|
  cd ((sh w a0).1 = 4) (f_Li_rank N a0 a1 w) <|
  cd ((sh w a0).1 = 5) (f_Wi_rank N a0 a1 w) <|
  cd ((sh w a0).1 = 6) (f_P_rank N a0 a1 w) <|
  none
def f_Pm_choose_b135 (N : Nat) (rec36 : Nat × Nat × Int32 × Int32 × Int32 × Int64 × Int32 × gW → Option (Int32 × gW)) (a0 : Nat) (a2 : Nat) (a3 : Int32) (a4 : Int32) (a5 : Int32) (a6 : Int64) (a8 : Int32) (w : gW) : Option (Int32 × gW) :=
  gd ((sh w a0).1 = 10) <|
  kl (f_Pm_advance N a0 w) fun x17 w18 =>
  bd (a8 + 1) fun x21 =>
  rec36 (a0, a2, a3, a4, a5, a6, x21, w18)
def f_Pm_choose_b72 (N : Nat) (rec36 : Nat × Nat × Int32 × Int32 × Int32 × Int64 × Int32 × gW → Option (Int32 × gW)) (a0 : Nat) (a2 : Nat) (a3 : Int32) (a4 : Int32) (a5 : Int32) (a6 : Int64) (a8 : Int32) (z0 : Int32) (w : gW) : Option (Int32 × gW) :=
  cd (z0 = 0) (
  gd ((sh w a0).1 = 10) <|
  kl (f_Pm_pays N a0 w) fun x22 w23 =>
  cd (x22 = 0) (
    f_Pm_choose_b135 N rec36 a0 a2 a3 a4 a5 a6 a8 w23) <|
  kl (v_rank N a2 a0 w23) fun x26 w27 =>
  bd (lg_cmp x26 a6) fun x29 =>
  cd ((0 : Int32) ≤ x29) (
    f_Pm_choose_b135 N rec36 a0 a2 a3 a4 a5 a6 a8 w27) <|
  gd ((sh w27 a0).1 = 10) <|
  rr (gR w27 a0 1) fun x31 =>
  rr (gR w27 a0 3) fun x33 =>
  gd ((sh w27 x31).1 = 50) <|
  gd ((sh w27 x33).1 = 50) <|
  gd ((0 : Int32).toNatClampNeg + (6 : Int32).toNatClampNeg ≤ (sh w27 x31).2) <|
  gd ((0 : Int32).toNatClampNeg + (6 : Int32).toNatClampNeg ≤ (sh w27 x33).2) <|
  bd (cI w27 x31 (0 : Int32).toNatClampNeg x33 (0 : Int32).toNatClampNeg (6 : Int32).toNatClampNeg) fun w39 =>
  gd ((sh w39 a0).1 = 10) <|
  rr (gR w39 a0 2) fun x41 =>
  rr (gR w39 a0 4) fun x43 =>
  gd ((sh w39 x41).1 = 50) <|
  gd ((sh w39 x43).1 = 50) <|
  gd ((0 : Int32).toNatClampNeg + (6 : Int32).toNatClampNeg ≤ (sh w39 x41).2) <|
  gd ((0 : Int32).toNatClampNeg + (6 : Int32).toNatClampNeg ≤ (sh w39 x43).2) <|
  bd (cI w39 x41 (0 : Int32).toNatClampNeg x43 (0 : Int32).toNatClampNeg (6 : Int32).toNatClampNeg) fun w49 =>
  f_Pm_choose_b135 N rec36 a0 a2 a3 a4 a5 x26 a8 w49) <|
    f_Pm_choose_b135 N rec36 a0 a2 a3 a4 a5 a6 a8 w
def f_Pm_choose_b67 (N : Nat) (rec36 : Nat × Nat × Int32 × Int32 × Int32 × Int64 × Int32 × gW → Option (Int32 × gW)) (a0 : Nat) (a2 : Nat) (a3 : Int32) (a4 : Int32) (a5 : Int32) (a6 : Int64) (a8 : Int32) (w : gW) : Option (Int32 × gW) :=
  f_Pm_choose_b72 N rec36 a0 a2 a3 a4 a5 a6 a8 1 w
def f_Pm_choose_b71 (N : Nat) (rec36 : Nat × Nat × Int32 × Int32 × Int32 × Int64 × Int32 × gW → Option (Int32 × gW)) (a0 : Nat) (a2 : Nat) (a3 : Int32) (a4 : Int32) (a5 : Int32) (a6 : Int64) (a8 : Int32) (w : gW) : Option (Int32 × gW) :=
  f_Pm_choose_b72 N rec36 a0 a2 a3 a4 a5 a6 a8 0 w
def f_Pm_choose_b36 (N : Nat) (rec36 : Nat × Nat × Int32 × Int32 × Int32 × Int64 × Int32 × gW → Option (Int32 × gW)) (a0 : Nat) (a2 : Nat) (a3 : Int32) (a4 : Int32) (a5 : Int32) (a6 : Int64) (a8 : Int32) (w : gW) : Option (Int32 × gW) :=
  cd (a4 ≤ a8) (
    bd (lg_cmp a6 1000000000) fun x10 =>
    cd (x10 = 0) (
    some (0, w)) <|
      gd ((sh w a0).1 = 10) <|
      kl (f_Pm_standAtBest N a0 w) fun x11 w12 =>
      some (1, w12)) <|
  gd ((sh w a0).1 = 10) <|
  bd (gI w a0 8) fun x16 =>
  cd (x16 < a3) (
    f_Pm_choose_b67 N rec36 a0 a2 a3 a4 a5 a6 a8 w) <|
  cd (a5 = 0) (
    f_Pm_choose_b71 N rec36 a0 a2 a3 a4 a5 a6 a8 w) <|
  kl (v_rank N a2 a0 w) fun x50 w51 =>
  bd (lg_cmp x50 a6) fun x53 =>
  cd (x53 < 0) (
    f_Pm_choose_b71 N rec36 a0 a2 a3 a4 a5 a6 a8 w51) <|
  f_Pm_choose_b67 N rec36 a0 a2 a3 a4 a5 a6 a8 w51
def f_Pm_choose_l36 (N : Nat) (a0 : Nat) (a2 : Nat) (a3 : Int32) (a4 : Int32) (a5 : Int32) (a6 : Int64) (a8 : Int32) (w : gW) : Option (Int32 × gW) :=
  itr (fun rec (q : Nat × Nat × Int32 × Int32 × Int32 × Int64 × Int32 × gW) => f_Pm_choose_b36 N rec q.1 q.2.1 q.2.2.1 q.2.2.2.1 q.2.2.2.2.1 q.2.2.2.2.2.1 q.2.2.2.2.2.2.1 q.2.2.2.2.2.2.2) N (a0, a2, a3, a4, a5, a6, a8, w)
def f_Pm_choose_b0 (N : Nat) (a0 : Nat) (a1 : Nat) (a2 : Nat) (a3 : Int32) (w : gW) : Option (Int32 × gW) :=
  gd ((sh w a0).1 = 10) <|
  kl (f_Pm_begin N a0 a1 a2 1 w) fun x1 w2 =>
  gd ((sh w2 a0).1 = 10) <|
  bd (sI w2 a0 7 a3) fun w6 =>
  kl (v_thinksOfWeight N a2 w6) fun x7 w8 =>
  cd (x7 = 0) (
  f_Pm_choose_l36 N a0 a2 a3 x1 1 1000000000 0 w8) <|
    f_Pm_choose_l36 N a0 a2 a3 x1 0 1000000000 0 w8
def f_Pm_choose (N : Nat) (a0 : Nat) (a1 : Nat) (a2 : Nat) (a3 : Int32) (w : gW) : Option (Int32 × gW) := f_Pm_choose_b0 N a0 a1 a2 a3 w
def f_Pm_canPay_b17 (N : Nat) (rec17 : Nat × Int32 × Int32 × gW → Option (Int32 × gW)) (a0 : Nat) (a4 : Int32) (a5 : Int32) (w : gW) : Option (Int32 × gW) :=
  cd (a4 ≤ a5) (
    some (0, w)) <|
  gd ((sh w a0).1 = 10) <|
  kl (f_Pm_pays N a0 w) fun x7 w8 =>
  cd (x7 = 0) (
    gd ((sh w8 a0).1 = 10) <|
    kl (f_Pm_advance N a0 w8) fun x11 w12 =>
    bd (a5 + 1) fun x15 =>
    rec17 (a0, a4, x15, w12)) <|
  some (1, w8)
def f_Pm_canPay_l17 (N : Nat) (a0 : Nat) (a4 : Int32) (a5 : Int32) (w : gW) : Option (Int32 × gW) :=
  itr (fun rec (q : Nat × Int32 × Int32 × gW) => f_Pm_canPay_b17 N rec q.1 q.2.1 q.2.2.1 q.2.2.2) N (a0, a4, a5, w)
def f_Pm_canPay_b0 (N : Nat) (a0 : Nat) (a1 : Nat) (a2 : Nat) (a3 : Int32) (w : gW) : Option (Int32 × gW) :=
  gd ((sh w a0).1 = 10) <|
  kl (f_Pm_begin N a0 a1 a2 1 w) fun x1 w2 =>
  gd ((sh w2 a0).1 = 10) <|
  bd (sI w2 a0 7 a3) fun w6 =>
  f_Pm_canPay_l17 N a0 x1 0 w6
def f_Pm_canPay (N : Nat) (a0 : Nat) (a1 : Nat) (a2 : Nat) (a3 : Int32) (w : gW) : Option (Int32 × gW) := f_Pm_canPay_b0 N a0 a1 a2 a3 w
def f_Wo_coins_b4 (N : Nat) (rec4 : Nat × Int32 × Int32 × Int32 × gW → Option (Int32 × gW)) (a0 : Nat) (a1 : Int32) (a2 : Int32) (a3 : Int32) (w : gW) : Option (Int32 × gW) :=
  cd ((6 : Int32) ≤ a3) (
    some (a2, w)) <|
  gd ((sh w a0).1 = 9) <|
  rr (gR w a0 2) fun x2 =>
  gd ((sh w x2).1 = 56) <|
  gd (¬ (a1 < 0 ∨ (sh w x2).2 ≤ a1.toNatClampNeg)) <|
  rr (gR w x2 a1.toNatClampNeg) fun x6 =>
  gd ((sh w x6).1 = 50) <|
  gd (¬ (a3 < 0 ∨ (sh w x6).2 ≤ a3.toNatClampNeg)) <|
  bd (gI w x6 a3.toNatClampNeg) fun x10 =>
  bd (a2 + x10) fun x11 =>
  bd (a3 + 1) fun x12 =>
  rec4 (a0, a1, x11, x12, w)
def f_Wo_coins_l4 (N : Nat) (a0 : Nat) (a1 : Int32) (a2 : Int32) (a3 : Int32) (w : gW) : Option (Int32 × gW) :=
  itr (fun rec (q : Nat × Int32 × Int32 × Int32 × gW) => f_Wo_coins_b4 N rec q.1 q.2.1 q.2.2.1 q.2.2.2.1 q.2.2.2.2) N (a0, a1, a2, a3, w)
def f_Wo_coins_b0 (N : Nat) (a0 : Nat) (a1 : Int32) (w : gW) : Option (Int32 × gW) :=
  f_Wo_coins_l4 N a0 a1 0 0 w
def f_Wo_coins (N : Nat) (a0 : Nat) (a1 : Int32) (w : gW) : Option (Int32 × gW) := f_Wo_coins_b0 N a0 a1 w
def f_Pm_coinsBehind_b22 (N : Nat) (rec22 : Nat × Int32 × Int32 × gW → Option (Int32 × gW)) (a0 : Nat) (a1 : Int32) (a2 : Int32) (w : gW) : Option (Int32 × gW) :=
  cd ((6 : Int32) ≤ a2) (
    some (a1, w)) <|
  gd ((sh w a0).1 = 10) <|
  rr (gR w a0 2) fun x16 =>
  gd ((sh w x16).1 = 50) <|
  gd (¬ (a2 < 0 ∨ (sh w x16).2 ≤ a2.toNatClampNeg)) <|
  bd (gI w x16 a2.toNatClampNeg) fun x20 =>
  bd (a1 + x20) fun x21 =>
  bd (a2 + 1) fun x22 =>
  rec22 (a0, x21, x22, w)
def f_Pm_coinsBehind_l22 (N : Nat) (a0 : Nat) (a1 : Int32) (a2 : Int32) (w : gW) : Option (Int32 × gW) :=
  itr (fun rec (q : Nat × Int32 × Int32 × gW) => f_Pm_coinsBehind_b22 N rec q.1 q.2.1 q.2.2.1 q.2.2.2) N (a0, a1, a2, w)
def f_Pm_coinsBehind_b0 (N : Nat) (a0 : Nat) (w : gW) : Option (Int32 × gW) :=
  gd ((sh w a0).1 = 10) <|
  rr (gR w a0 5) fun x2 =>
  rr (gR w a0 6) fun x4 =>
  gd ((sh w x4).1 < 7) <|
  bd (gI w x4 1) fun x7 =>
  gd ((sh w x2).1 = 9) <|
  kl (f_Wo_coins N x2 x7 w) fun x8 w9 =>
  gd ((sh w9 a0).1 = 10) <|
  bd (gI w9 a0 9) fun x13 =>
  bd (x8 - x13) fun x14 =>
  f_Pm_coinsBehind_l22 N a0 x14 0 w9
def f_Pm_coinsBehind (N : Nat) (a0 : Nat) (w : gW) : Option (Int32 × gW) := f_Pm_coinsBehind_b0 N a0 w
def f_Pm_leastBehind_b58 (N : Nat) (rec21 : Nat × Int32 × Int32 × Int32 × Int32 × gW → Option (Int32 × gW)) (a0 : Nat) (a4 : Int32) (a5 : Int32) (a6 : Int32) (a7 : Int32) (w : gW) : Option (Int32 × gW) :=
  gd ((sh w a0).1 = 10) <|
  kl (f_Pm_advance N a0 w) fun x11 w12 =>
  bd (a7 + 1) fun x15 =>
  rec21 (a0, a4, a5, a6, x15, w12)
def f_Pm_leastBehind_b53 (N : Nat) (rec21 : Nat × Int32 × Int32 × Int32 × Int32 × gW → Option (Int32 × gW)) (a0 : Nat) (a4 : Int32) (a5 : Int32) (a7 : Int32) (z0 : Int32) (z1 : Int32) (w : gW) : Option (Int32 × gW) :=
  bd (if z0 < z1 then z0 else z1) fun x20 =>
  f_Pm_leastBehind_b58 N rec21 a0 a4 a5 x20 a7 w
def f_Pm_leastBehind_b21 (N : Nat) (rec21 : Nat × Int32 × Int32 × Int32 × Int32 × gW → Option (Int32 × gW)) (a0 : Nat) (a4 : Int32) (a5 : Int32) (a6 : Int32) (a7 : Int32) (w : gW) : Option (Int32 × gW) :=
  cd (a5 ≤ a7) (
    cd (a6 = 1000000000) (
    some ((-5), w)) <|
      some (a6, w)) <|
  gd ((sh w a0).1 = 10) <|
  kl (f_Pm_pays N a0 w) fun x7 w8 =>
  cd (x7 = 0) (
    f_Pm_leastBehind_b58 N rec21 a0 a4 a5 a6 a7 w8) <|
  cd (a4 = 0) (
    gd ((sh w8 a0).1 = 10) <|
    kl (f_Pm_coinsBehind N a0 w8) fun x16 w17 =>
    f_Pm_leastBehind_b53 N rec21 a0 a4 a5 a7 x16 a6 w17) <|
  gd ((sh w8 a0).1 = 10) <|
  kl (f_Pm_weightBehind N a0 w8) fun x21 w22 =>
  f_Pm_leastBehind_b53 N rec21 a0 a4 a5 a7 x21 a6 w22
def f_Pm_leastBehind_l21 (N : Nat) (a0 : Nat) (a4 : Int32) (a5 : Int32) (a6 : Int32) (a7 : Int32) (w : gW) : Option (Int32 × gW) :=
  itr (fun rec (q : Nat × Int32 × Int32 × Int32 × Int32 × gW) => f_Pm_leastBehind_b21 N rec q.1 q.2.1 q.2.2.1 q.2.2.2.1 q.2.2.2.2.1 q.2.2.2.2.2) N (a0, a4, a5, a6, a7, w)
def f_Pm_leastBehind_b0 (N : Nat) (a0 : Nat) (a1 : Nat) (a2 : Nat) (a3 : Int32) (a4 : Int32) (w : gW) : Option (Int32 × gW) :=
  gd ((sh w a0).1 = 10) <|
  kl (f_Pm_begin N a0 a1 a2 0 w) fun x1 w2 =>
  gd ((sh w2 a0).1 = 10) <|
  bd (sI w2 a0 7 a3) fun w6 =>
  f_Pm_leastBehind_l21 N a0 a4 x1 1000000000 0 w6
def f_Pm_leastBehind (N : Nat) (a0 : Nat) (a1 : Nat) (a2 : Nat) (a3 : Int32) (a4 : Int32) (w : gW) : Option (Int32 × gW) := f_Pm_leastBehind_b0 N a0 a1 a2 a3 a4 w
def f_Lo_bitCount_b0 (N : Nat) (a0 : Int64) (w : gW) : Option (Int32 × gW) :=
  bd ((a0.toUInt64 >>> ((1 : Int32).toInt64.toUInt64 &&& Int64.toUInt64 63)).toInt64) fun x1 =>
  bd (x1 &&& 6148914691236517205) fun x2 =>
  bd (a0 - x2) fun x3 =>
  bd (x3 &&& 3689348814741910323) fun x4 =>
  bd ((x3.toUInt64 >>> ((2 : Int32).toInt64.toUInt64 &&& Int64.toUInt64 63)).toInt64) fun x5 =>
  bd (x5 &&& 3689348814741910323) fun x6 =>
  bd (x4 + x6) fun x7 =>
  bd ((x7.toUInt64 >>> ((4 : Int32).toInt64.toUInt64 &&& Int64.toUInt64 63)).toInt64) fun x8 =>
  bd (x7 + x8) fun x9 =>
  bd (x9 &&& 1085102592571150095) fun x10 =>
  bd ((x10.toUInt64 >>> ((8 : Int32).toInt64.toUInt64 &&& Int64.toUInt64 63)).toInt64) fun x11 =>
  bd (x10 + x11) fun x12 =>
  bd ((x12.toUInt64 >>> ((16 : Int32).toInt64.toUInt64 &&& Int64.toUInt64 63)).toInt64) fun x13 =>
  bd (x12 + x13) fun x14 =>
  bd ((x14.toUInt64 >>> ((32 : Int32).toInt64.toUInt64 &&& Int64.toUInt64 63)).toInt64) fun x15 =>
  bd (x14 + x15) fun x16 =>
  bd (x16.toInt32) fun x17 =>
  bd (x17 &&& 127) fun x18 =>
  some (x18, w)
def f_Lo_bitCount (N : Nat) (a0 : Int64) (w : gW) : Option (Int32 × gW) := f_Lo_bitCount_b0 N a0 w
def f_Pm_exactPrices_b63 (N : Nat) (rec14 : Nat × Int32 × Int64 × Int32 × gW → Option (Int32 × gW)) (a0 : Nat) (a3 : Int32) (a4 : Int64) (a6 : Int32) (w : gW) : Option (Int32 × gW) :=
  gd ((sh w a0).1 = 10) <|
  kl (f_Pm_advance N a0 w) fun x13 w14 =>
  bd (a6 + 1) fun x17 =>
  rec14 (a0, a3, a4, x17, w14)
def f_Pm_exactPrices_b14 (N : Nat) (rec14 : Nat × Int32 × Int64 × Int32 × gW → Option (Int32 × gW)) (a0 : Nat) (a3 : Int32) (a4 : Int64) (a6 : Int32) (w : gW) : Option (Int32 × gW) :=
  cd (a3 ≤ a6) (
    kl (f_Lo_bitCount N a4 w) fun x5 w6 =>
    some (x5, w6)) <|
  gd ((sh w a0).1 = 10) <|
  bd (gI w a0 8) fun x9 =>
  bd (sI w a0 7 x9) fun w10 =>
  gd ((sh w10 a0).1 = 10) <|
  bd (gI w10 a0 8) fun x12 =>
  cd (x12 < 1) (
    f_Pm_exactPrices_b63 N rec14 a0 a3 a4 a6 w10) <|
  bd (gI w10 a0 8) fun x18 =>
  cd ((60 : Int32) < x18) (
    f_Pm_exactPrices_b63 N rec14 a0 a3 a4 a6 w10) <|
  kl (f_Pm_pays N a0 w10) fun x19 w20 =>
  cd (x19 = 0) (
    f_Pm_exactPrices_b63 N rec14 a0 a3 a4 a6 w20) <|
  gd ((sh w20 a0).1 = 10) <|
  bd (gI w20 a0 8) fun x23 =>
  bd (1 <<< (x23.toInt64 &&& 63)) fun x24 =>
  bd (a4 ||| x24) fun x25 =>
  f_Pm_exactPrices_b63 N rec14 a0 a3 x25 a6 w20
def f_Pm_exactPrices_l14 (N : Nat) (a0 : Nat) (a3 : Int32) (a4 : Int64) (a6 : Int32) (w : gW) : Option (Int32 × gW) :=
  itr (fun rec (q : Nat × Int32 × Int64 × Int32 × gW) => f_Pm_exactPrices_b14 N rec q.1 q.2.1 q.2.2.1 q.2.2.2.1 q.2.2.2.2) N (a0, a3, a4, a6, w)
def f_Pm_exactPrices_b0 (N : Nat) (a0 : Nat) (a1 : Nat) (a2 : Nat) (w : gW) : Option (Int32 × gW) :=
  gd ((sh w a0).1 = 10) <|
  kl (f_Pm_begin N a0 a1 a2 0 w) fun x1 w2 =>
  f_Pm_exactPrices_l14 N a0 x1 0 0 w2
def f_Pm_exactPrices (N : Nat) (a0 : Nat) (a1 : Nat) (a2 : Nat) (w : gW) : Option (Int32 × gW) := f_Pm_exactPrices_b0 N a0 a1 a2 w
def f_Pm_settle_b10 (N : Nat) (rec10 : Nat × Int32 × Int32 × gW → Option (Unit × gW)) (a0 : Nat) (a1 : Int32) (a2 : Int32) (w : gW) : Option (Unit × gW) :=
  cd ((6 : Int32) ≤ a2) (
    gd ((sh w a0).1 = 10) <|
    rr (gR w a0 5) fun x7 =>
    gd ((sh w x7).1 = 9) <|
    rr (gR w x7 4) fun x10 =>
    gd ((sh w x10).1 = 50) <|
    gd (¬ (a1 < 0 ∨ (sh w x10).2 ≤ a1.toNatClampNeg)) <|
    bd (gI w x10 a1.toNatClampNeg) fun x14 =>
    bd (x14 + 1) fun x15 =>
    bd (if x15 < (9999 : Int32) then x15 else (9999 : Int32)) fun x16 =>
    bd (sI w x10 a1.toNatClampNeg x16) fun w17 =>
    some ((), w17)) <|
  gd ((sh w a0).1 = 10) <|
  rr (gR w a0 5) fun x19 =>
  gd ((sh w x19).1 = 9) <|
  rr (gR w x19 5) fun x22 =>
  gd ((sh w x22).1 = 50) <|
  gd (¬ (a2 < 0 ∨ (sh w x22).2 ≤ a2.toNatClampNeg)) <|
  bd (gI w x22 a2.toNatClampNeg) fun x26 =>
  rr (gR w a0 1) fun x27 =>
  gd ((sh w x27).1 = 50) <|
  gd (¬ (a2 < 0 ∨ (sh w x27).2 ≤ a2.toNatClampNeg)) <|
  bd (gI w x27 a2.toNatClampNeg) fun x31 =>
  rr (gR w a0 2) fun x32 =>
  gd ((sh w x32).1 = 50) <|
  gd (¬ (a2 < 0 ∨ (sh w x32).2 ≤ a2.toNatClampNeg)) <|
  bd (gI w x32 a2.toNatClampNeg) fun x36 =>
  bd (x31 - x36) fun x37 =>
  bd (x26 + x37) fun x38 =>
  bd (sI w x22 a2.toNatClampNeg x38) fun w39 =>
  gd ((sh w39 a0).1 = 10) <|
  rr (gR w39 a0 5) fun x41 =>
  gd ((sh w39 x41).1 = 9) <|
  rr (gR w39 x41 2) fun x44 =>
  gd ((sh w39 x44).1 = 56) <|
  gd (¬ (a1 < 0 ∨ (sh w39 x44).2 ≤ a1.toNatClampNeg)) <|
  rr (gR w39 x44 a1.toNatClampNeg) fun x48 =>
  gd ((sh w39 x48).1 = 50) <|
  gd (¬ (a2 < 0 ∨ (sh w39 x48).2 ≤ a2.toNatClampNeg)) <|
  bd (gI w39 x48 a2.toNatClampNeg) fun x52 =>
  rr (gR w39 a0 2) fun x53 =>
  gd ((sh w39 x53).1 = 50) <|
  gd (¬ (a2 < 0 ∨ (sh w39 x53).2 ≤ a2.toNatClampNeg)) <|
  bd (gI w39 x53 a2.toNatClampNeg) fun x57 =>
  rr (gR w39 a0 1) fun x58 =>
  gd ((sh w39 x58).1 = 50) <|
  gd (¬ (a2 < 0 ∨ (sh w39 x58).2 ≤ a2.toNatClampNeg)) <|
  bd (gI w39 x58 a2.toNatClampNeg) fun x62 =>
  bd (x57 - x62) fun x63 =>
  bd (x52 + x63) fun x64 =>
  bd (sI w39 x48 a2.toNatClampNeg x64) fun w65 =>
  bd (a2 + 1) fun x66 =>
  rec10 (a0, a1, x66, w65)
def f_Pm_settle_l10 (N : Nat) (a0 : Nat) (a1 : Int32) (a2 : Int32) (w : gW) : Option (Unit × gW) :=
  itr (fun rec (q : Nat × Int32 × Int32 × gW) => f_Pm_settle_b10 N rec q.1 q.2.1 q.2.2.1 q.2.2.2) N (a0, a1, a2, w)
def f_Pm_settle_b0 (N : Nat) (a0 : Nat) (w : gW) : Option (Unit × gW) :=
  gd ((sh w a0).1 = 10) <|
  rr (gR w a0 6) fun x2 =>
  gd ((sh w x2).1 < 7) <|
  bd (gI w x2 1) fun x5 =>
  f_Pm_settle_l10 N a0 x5 0 w
def f_Pm_settle (N : Nat) (a0 : Nat) (w : gW) : Option (Unit × gW) := f_Pm_settle_b0 N a0 w
def f_Ro_init_b0 (N : Nat) (a0 : Nat) (a1 : Int32) (a2 : Int32) (a3 : Int32) (w : gW) : Option (Unit × gW) :=
  gd ((sh w a0).1 < 7) <|
  kl (f_P_init N a0 a1 a2 a3 w) fun x1 w2 =>
  some ((), w2)
def f_Ro_init (N : Nat) (a0 : Nat) (a1 : Int32) (a2 : Int32) (a3 : Int32) (w : gW) : Option (Unit × gW) := f_Ro_init_b0 N a0 a1 a2 a3 w
def f_To_init_b0 (N : Nat) (a0 : Nat) (a1 : Int32) (a2 : Int32) (w : gW) : Option (Unit × gW) :=
  gd ((sh w a0).1 < 7) <|
  kl (f_Ke_init N a0 6 a1 a2 w) fun x1 w2 =>
  some ((), w2)
def f_To_init (N : Nat) (a0 : Nat) (a1 : Int32) (a2 : Int32) (w : gW) : Option (Unit × gW) := f_To_init_b0 N a0 a1 a2 w
def f_Tn_init_b92 (N : Nat) (rec92 : Nat × Int32 × Nat × Nat × gW → Option (Unit × gW)) (a0 : Nat) (a1 : Int32) (kc : Nat) (ks : Nat) (w : gW) : Option (Unit × gW) :=
  cd ((6 : Int32) ≤ a1) (
    gd (kc ≤ 7 ∧ ks ≤ 152) <|
    some ((), w)) <|
  gd ((sh w a0).1 = 7) <|
  rr (gR w a0 0) fun x43 =>
  bd (2 + a1) fun x45 =>
  gd ((sh w x43).1 = 50) <|
  gd (¬ (a1 < 0 ∨ (sh w x43).2 ≤ a1.toNatClampNeg)) <|
  bd (sI w x43 a1.toNatClampNeg x45) fun w48 =>
  bd (a1 + 1) fun x49 =>
  rec92 (a0, x49, kc, ks, w48)
def f_Tn_init_l92 (N : Nat) (a0 : Nat) (a1 : Int32) (kc : Nat) (ks : Nat) (w : gW) : Option (Unit × gW) :=
  itr (fun rec (q : Nat × Int32 × Nat × Nat × gW) => f_Tn_init_b92 N rec q.1 q.2.1 q.2.2.1 q.2.2.2.1 q.2.2.2.2) N (a0, a1, kc, ks, w)
def f_Tn_init_b0 (N : Nat) (a0 : Nat) (w : gW) : Option (Unit × gW) :=
  bd (nx w) fun p1 =>
  bd (nw w 50 6) fun w2 =>
  gd ((sh w2 a0).1 = 7) <|
  bd (sR w2 a0 0 (some p1)) fun w4 =>
  gd ((sh w4 a0).1 = 7) <|
  bd (sI w4 a0 1 2) fun w6 =>
  bd (nx w6) fun p7 =>
  bd (nw w6 50 10) fun w8 =>
  gd ((sh w8 a0).1 = 7) <|
  bd (sR w8 a0 2 (some p7)) fun w10 =>
  bd (nx w10) fun p11 =>
  bd (nw w10 50 10) fun w12 =>
  gd ((sh w12 a0).1 = 7) <|
  bd (sR w12 a0 3 (some p11)) fun w14 =>
  bd (nx w14) fun p15 =>
  bd (nw w14 50 10) fun w16 =>
  gd ((sh w16 a0).1 = 7) <|
  bd (sR w16 a0 4 (some p15)) fun w18 =>
  bd (nx w18) fun p19 =>
  bd (nw w18 50 10) fun w20 =>
  gd ((sh w20 a0).1 = 7) <|
  bd (sR w20 a0 5 (some p19)) fun w22 =>
  gd ((sh w22 a0).1 = 7) <|
  bd (sI w22 a0 6 0) fun w24 =>
  bd (nx w24) fun p25 =>
  bd (nw w24 50 100) fun w26 =>
  gd ((sh w26 a0).1 = 7) <|
  bd (sR w26 a0 7 (some p25)) fun w28 =>
  gd ((sh w28 a0).1 = 7) <|
  bd (sI w28 a0 8 0) fun w30 =>
  bd (nx w30) fun p31 =>
  bd (nw w30 50 6) fun w32 =>
  gd ((sh w32 a0).1 = 7) <|
  bd (sR w32 a0 9 (some p31)) fun w34 =>
  gd ((sh w34 a0).1 = 7) <|
  bd (sR w34 a0 10 none) fun w36 =>
  gd ((sh w36 a0).1 = 7) <|
  bd (sI w36 a0 11 0) fun w38 =>
  gd ((sh w38 a0).1 = 7) <|
  bd (sI w38 a0 12 0) fun w40 =>
  f_Tn_init_l92 N a0 0 7 152 w40
def f_Tn_init (N : Nat) (a0 : Nat) (w : gW) : Option (Unit × gW) := f_Tn_init_b0 N a0 w
def f_Tn_ahead_b0 (N : Nat) (a0 : Nat) (w : gW) : Option (Int32 × gW) :=
  gd ((sh w a0).1 = 7) <|
  nr (gR w a0 10) (
    some ((-1), w)) fun x2 =>
  bd (gI w a0 12) fun x4 =>
  bd (gI w a0 11) fun x5 =>
  cd (x5 ≤ x4) (
    some ((-1), w)) <|
  bd (gI w a0 12) fun x6 =>
  gd ((sh w x2).1 = 51) <|
  bd (Int32.ofNat (sh w x2).2) fun x8 =>
  cd (x8 ≤ x6) (
    some ((-1), w)) <|
  bd (gI w a0 12) fun x9 =>
  gd (¬ (x9 < 0 ∨ (sh w x2).2 ≤ x9.toNatClampNeg)) <|
  bd (gI w x2 x9.toNatClampNeg) fun x11 =>
  some (x11, w)
def f_Tn_ahead (N : Nat) (a0 : Nat) (w : gW) : Option (Int32 × gW) := f_Tn_ahead_b0 N a0 w
def f_Tn_emit_b0 (N : Nat) (a0 : Nat) (a1 : Int32) (w : gW) : Option (Unit × gW) :=
  gd ((sh w a0).1 = 7) <|
  bd (gI w a0 8) fun x2 =>
  rr (gR w a0 7) fun x3 =>
  gd ((sh w x3).1 = 50) <|
  bd (Int32.ofNat (sh w x3).2) fun x6 =>
  cd (x6 ≤ x2) (
    some ((), w)) <|
  bd (gI w a0 8) fun x7 =>
  gd (¬ (x7 < 0 ∨ (sh w x3).2 ≤ x7.toNatClampNeg)) <|
  bd (sI w x3 x7.toNatClampNeg a1) fun w9 =>
  gd ((sh w9 a0).1 = 7) <|
  bd (gI w9 a0 8) fun x11 =>
  bd (x11 + 1) fun x12 =>
  bd (sI w9 a0 8 x12) fun w13 =>
  some ((), w13)
def f_Tn_emit (N : Nat) (a0 : Nat) (a1 : Int32) (w : gW) : Option (Unit × gW) := f_Tn_emit_b0 N a0 a1 w
def f_Tn_takes_b0 (N : Nat) (a0 : Nat) (a1 : Int32) (w : gW) : Option (Int32 × gW) :=
  gd ((sh w a0).1 = 7) <|
  kl (f_Tn_ahead N a0 w) fun x1 w2 =>
  cd (x1 = a1) (
    gd ((sh w2 a0).1 = 7) <|
    bd (gI w2 a0 12) fun x6 =>
    bd (x6 + 1) fun x7 =>
    bd (sI w2 a0 12 x7) fun w8 =>
    some (1, w8)) <|
  some (0, w2)
def f_Tn_takes (N : Nat) (a0 : Nat) (a1 : Int32) (w : gW) : Option (Int32 × gW) := f_Tn_takes_b0 N a0 a1 w
def f_Tn_isDigitAhead_b0 (N : Nat) (a0 : Nat) (w : gW) : Option (Int32 × gW) :=
  gd ((sh w a0).1 = 7) <|
  kl (f_Tn_ahead N a0 w) fun x1 w2 =>
  cd (x1 < 48) (
    some (0, w2)) <|
  gd ((sh w2 a0).1 = 7) <|
  kl (f_Tn_ahead N a0 w2) fun x5 w6 =>
  cd ((57 : Int32) < x5) (
    some (0, w6)) <|
  some (1, w6)
def f_Tn_isDigitAhead (N : Nat) (a0 : Nat) (w : gW) : Option (Int32 × gW) := f_Tn_isDigitAhead_b0 N a0 w
def f_Tn_number_b0 (N : Nat) (a0 : Nat) (w : gW) : Option (Int32 × gW) :=
  gd ((sh w a0).1 = 7) <|
  kl (f_Tn_isDigitAhead N a0 w) fun x1 w2 =>
  cd (x1 = 0) (
  some ((-1), w2)) <|
    gd ((sh w2 a0).1 = 7) <|
    kl (f_Tn_ahead N a0 w2) fun x5 w6 =>
    bd (x5 - 48) fun x9 =>
    gd ((sh w6 a0).1 = 7) <|
    bd (gI w6 a0 12) fun x11 =>
    bd (x11 + 1) fun x12 =>
    bd (sI w6 a0 12 x12) fun w13 =>
    gd ((sh w13 a0).1 = 7) <|
    kl (f_Tn_isDigitAhead N a0 w13) fun x14 w15 =>
    cd (x14 = 0) (
      some (x9, w15)) <|
    bd (x9 * 10) fun x18 =>
    gd ((sh w15 a0).1 = 7) <|
    kl (f_Tn_ahead N a0 w15) fun x19 w20 =>
    bd (x18 + x19) fun x23 =>
    bd (x23 - 48) fun x24 =>
    gd ((sh w20 a0).1 = 7) <|
    bd (gI w20 a0 12) fun x26 =>
    bd (x26 + 1) fun x27 =>
    bd (sI w20 a0 12 x27) fun w28 =>
    some (x24, w28)
def f_Tn_number (N : Nat) (a0 : Nat) (w : gW) : Option (Int32 × gW) := f_Tn_number_b0 N a0 w
def f_S_isLatin1_b0 (N : Nat) (a0 : Nat) (w : gW) : Option (Int32 × gW) :=
  cd (((1 : Int32) : Int32) = 0) (
    some (0, w)) <|
  gd (a0 < 5) <|
  cd (((0 : Int32) : Int32) = 0) (
  some (1, w)) <|
    some (0, w)
def f_S_isLatin1 (N : Nat) (a0 : Nat) (w : gW) : Option (Int32 × gW) := f_S_isLatin1_b0 N a0 w
def f_S_coder_b0 (N : Nat) (a0 : Nat) (w : gW) : Option (Int32 × gW) :=
  cd (((1 : Int32) : Int32) = 0) (
    some (1, w)) <|
  gd (a0 < 5) <|
  some (0, w)
def f_S_coder (N : Nat) (a0 : Nat) (w : gW) : Option (Int32 × gW) := f_S_coder_b0 N a0 w
def f_S_length_b0 (N : Nat) (a0 : Nat) (w : gW) : Option (Int32 × gW) :=
  gd (a0 < 5) <|
  bd (Int32.ofNat (gLen.getD a0 0)) fun x2 =>
  kl (f_S_coder N a0 w) fun x3 w4 =>
  bd (x2 >>> (x3 &&& 31)) fun x6 =>
  some (x6, w4)
def f_S_length (N : Nat) (a0 : Nat) (w : gW) : Option (Int32 × gW) := f_S_length_b0 N a0 w
def f_L1_canEncode_b0 (N : Nat) (a0 : Int32) (w : gW) : Option (Int32 × gW) :=
  cd (a0 < 0) (
    some (0, w)) <|
  cd ((255 : Int32) < a0) (
    some (0, w)) <|
  some (1, w)
def f_L1_canEncode (N : Nat) (a0 : Int32) (w : gW) : Option (Int32 × gW) := f_L1_canEncode_b0 N a0 w
def f_L1_indexOfChar_b7 (N : Nat) (rec7 : Nat × Int32 × Int32 × Int32 × gW → Option (Int32 × gW)) (a0 : Nat) (a3 : Int32) (a4 : Int32) (a5 : Int32) (w : gW) : Option (Int32 × gW) :=
  cd (a3 ≤ a5) (
    some ((-1), w)) <|
  gd (a0 < 5) <|
  gd (¬ (a5 < 0 ∨ gLen.getD a0 0 ≤ a5.toNatClampNeg)) <|
  bd ((gByt.getD a0 []).getD a5.toNatClampNeg 0) fun x4 =>
  cd (x4 = a4) (
  some (a5, w)) <|
    bd (a5 + 1) fun x5 =>
    rec7 (a0, a3, a4, x5, w)
def f_L1_indexOfChar_l7 (N : Nat) (a0 : Nat) (a3 : Int32) (a4 : Int32) (a5 : Int32) (w : gW) : Option (Int32 × gW) :=
  itr (fun rec (q : Nat × Int32 × Int32 × Int32 × gW) => f_L1_indexOfChar_b7 N rec q.1 q.2.1 q.2.2.1 q.2.2.2.1 q.2.2.2.2) N (a0, a3, a4, a5, w)
def f_L1_indexOfChar_b0 (N : Nat) (a0 : Nat) (a1 : Int32) (a2 : Int32) (a3 : Int32) (w : gW) : Option (Int32 × gW) :=
  bd (a1.toInt8.toInt32) fun x1 =>
  f_L1_indexOfChar_l7 N a0 a3 x1 a2 w
def f_L1_indexOfChar (N : Nat) (a0 : Nat) (a1 : Int32) (a2 : Int32) (a3 : Int32) (w : gW) : Option (Int32 × gW) := f_L1_indexOfChar_b0 N a0 a1 a2 a3 w
def f_L1_indexOf_b0 (N : Nat) (a0 : Nat) (a1 : Int32) (a2 : Int32) (a3 : Int32) (w : gW) : Option (Int32 × gW) :=
  kl (f_L1_canEncode N a1 w) fun x1 w2 =>
  cd (x1 = 0) (
  some ((-1), w2)) <|
    bd (if a2 < (0 : Int32) then (0 : Int32) else a2) fun x4 =>
    gd (a0 < 5) <|
    bd (Int32.ofNat (gLen.getD a0 0)) fun x6 =>
    bd (if x6 < a3 then x6 else a3) fun x7 =>
    cd (x4 < x7) (
      kl (f_L1_indexOfChar N a0 a1 x4 x7 w2) fun x8 w9 =>
      some (x8, w9)) <|
    some ((-1), w2)
def f_L1_indexOf (N : Nat) (a0 : Nat) (a1 : Int32) (a2 : Int32) (a3 : Int32) (w : gW) : Option (Int32 × gW) := f_L1_indexOf_b0 N a0 a1 a2 a3 w
def f_S_indexOfii_b0 (N : Nat) (a0 : Nat) (a1 : Int32) (a2 : Int32) (w : gW) : Option (Int32 × gW) :=
  gd (a0 < 5) <|
  kl (f_S_isLatin1 N a0 w) fun x1 w2 =>
  cd (x1 = 0) (
    kl (f_S_length N a0 w2) fun x5 w6 =>
    none) <|
  kl (f_S_length N a0 w2) fun x8 w9 =>
  kl (f_L1_indexOf N a0 a1 a2 x8 w9) fun x11 w12 =>
  some (x11, w12)
def f_S_indexOfii (N : Nat) (a0 : Nat) (a1 : Int32) (a2 : Int32) (w : gW) : Option (Int32 × gW) := f_S_indexOfii_b0 N a0 a1 a2 w
def f_S_indexOfi_b0 (N : Nat) (a0 : Nat) (a1 : Int32) (w : gW) : Option (Int32 × gW) :=
  gd (a0 < 5) <|
  kl (f_S_indexOfii N a0 a1 0 w) fun x1 w2 =>
  some (x1, w2)
def f_S_indexOfi (N : Nat) (a0 : Nat) (a1 : Int32) (w : gW) : Option (Int32 × gW) := f_S_indexOfi_b0 N a0 a1 w
def f_Tn_takesOneOf_b19 (N : Nat) (a0 : Nat) (z0 : Int32) (w : gW) : Option (Int32 × gW) :=
  cd (z0 < 0) (
    some (z0, w)) <|
  gd ((sh w a0).1 = 7) <|
  bd (gI w a0 12) fun x11 =>
  bd (x11 + 1) fun x12 =>
  bd (sI w a0 12 x12) fun w13 =>
  some (z0, w13)
def f_Tn_takesOneOf_b0 (N : Nat) (a0 : Nat) (a1 : Nat) (w : gW) : Option (Int32 × gW) :=
  gd ((sh w a0).1 = 7) <|
  kl (f_Tn_ahead N a0 w) fun x1 w2 =>
  cd ((0 : Int32) ≤ x1) (
    bd ((x1.toUInt32 % 65536).toInt32) fun x5 =>
    gd (a1 < 5) <|
    kl (f_S_indexOfi N a1 x5 w2) fun x6 w7 =>
    f_Tn_takesOneOf_b19 N a0 x6 w7) <|
  f_Tn_takesOneOf_b19 N a0 (-1) w2
def f_Tn_takesOneOf (N : Nat) (a0 : Nat) (a1 : Nat) (w : gW) : Option (Int32 × gW) := f_Tn_takesOneOf_b0 N a0 a1 w
def f_Tn_test_b0 (N : Nat) (a0 : Nat) (w : gW) : Option (Int32 × gW) :=
  gd ((sh w a0).1 = 7) <|
  kl (f_Tn_takesOneOf N a0 3 w) fun x1 w2 =>
  cd ((0 : Int32) ≤ x1) (
    gd ((sh w2 a0).1 = 7) <|
    kl (f_Tn_takesOneOf N a0 4 w2) fun x5 w6 =>
    cd ((0 : Int32) ≤ x5) (
      gd ((sh w6 a0).1 = 7) <|
      kl (f_Tn_number N a0 w6) fun x9 w10 =>
      cd ((0 : Int32) ≤ x9) (
        bd (x1 * 300) fun x13 =>
        bd (3 + x13) fun x14 =>
        bd (x5 * 100) fun x15 =>
        bd (x14 + x15) fun x16 =>
        bd (x16 + x9) fun x17 =>
        gd ((sh w10 a0).1 = 7) <|
        kl (f_Tn_emit N a0 x17 w10) fun x18 w19 =>
        some (1, w19)) <|
      some (0, w10)) <|
    some (0, w6)) <|
  some (0, w2)
def f_Tn_test (N : Nat) (a0 : Nat) (w : gW) : Option (Int32 × gW) := f_Tn_test_b0 N a0 w
def f_Tn_either_b8 (N : Nat) (rcg : Nat × Nat × Int32 × gW → Option (Int32 × gW)) (rec8 : Nat × Int32 × Int32 × Int32 × gW → Option (Int32 × gW)) (a0 : Nat) (a1 : Int32) (a2 : Int32) (a3 : Int32) (w : gW) : Option (Int32 × gW) :=
  cd ((100 : Int32) ≤ a3) (
    gd (a2 = 0 ∨ a2 = 1) <|
    some (a2, w)) <|
  cd (a2 = 0) (
    gd (a2 = 0 ∨ a2 = 1) <|
    some (a2, w)) <|
  gd ((sh w a0).1 = 7) <|
  kl (f_Tn_ahead N a0 w) fun x7 w8 =>
  cd (x7 = 124) (
  gd ((sh w8 a0).1 = 7) <|
  bd (gI w8 a0 12) fun x13 =>
  bd (x13 + 1) fun x14 =>
  bd (sI w8 a0 12 x14) fun w15 =>
  gd ((sh w15 a0).1 = 7) <|
  kl (rcg (1, a0, a1, w15)) fun x16 w17 =>
  gd ((sh w17 a0).1 = 7) <|
  kl (f_Tn_emit N a0 0 w17) fun x20 w21 =>
  bd (a3 + 1) fun x24 =>
  rec8 (a0, a1, x16, x24, w21)) <|
    gd (a2 = 0 ∨ a2 = 1) <|
    some (a2, w8)
def f_Tn_either_l8 (N : Nat) (rcg : Nat × Nat × Int32 × gW → Option (Int32 × gW)) (a0 : Nat) (a1 : Int32) (a2 : Int32) (a3 : Int32) (w : gW) : Option (Int32 × gW) :=
  itr (fun rec (q : Nat × Int32 × Int32 × Int32 × gW) => f_Tn_either_b8 N rcg rec q.1 q.2.1 q.2.2.1 q.2.2.2.1 q.2.2.2.2) N (a0, a1, a2, a3, w)
def f_Tn_either_b0 (N : Nat) (rcg : Nat × Nat × Int32 × gW → Option (Int32 × gW)) (a0 : Nat) (a1 : Int32) (w : gW) : Option (Int32 × gW) :=
  gd ((sh w a0).1 = 7) <|
  kl (rcg (1, a0, a1, w)) fun x1 w2 =>
  f_Tn_either_l8 N rcg a0 a1 x1 0 w2
def f_Tn_both_b8 (N : Nat) (rcg : Nat × Nat × Int32 × gW → Option (Int32 × gW)) (rec8 : Nat × Int32 × Int32 × Int32 × gW → Option (Int32 × gW)) (a0 : Nat) (a1 : Int32) (a2 : Int32) (a3 : Int32) (w : gW) : Option (Int32 × gW) :=
  cd ((100 : Int32) ≤ a3) (
    gd (a2 = 0 ∨ a2 = 1) <|
    some (a2, w)) <|
  cd (a2 = 0) (
    gd (a2 = 0 ∨ a2 = 1) <|
    some (a2, w)) <|
  gd ((sh w a0).1 = 7) <|
  kl (f_Tn_ahead N a0 w) fun x7 w8 =>
  cd (x7 = 38) (
  gd ((sh w8 a0).1 = 7) <|
  bd (gI w8 a0 12) fun x13 =>
  bd (x13 + 1) fun x14 =>
  bd (sI w8 a0 12 x14) fun w15 =>
  gd ((sh w15 a0).1 = 7) <|
  kl (rcg (2, a0, a1, w15)) fun x16 w17 =>
  gd ((sh w17 a0).1 = 7) <|
  kl (f_Tn_emit N a0 1 w17) fun x20 w21 =>
  bd (a3 + 1) fun x24 =>
  rec8 (a0, a1, x16, x24, w21)) <|
    gd (a2 = 0 ∨ a2 = 1) <|
    some (a2, w8)
def f_Tn_both_l8 (N : Nat) (rcg : Nat × Nat × Int32 × gW → Option (Int32 × gW)) (a0 : Nat) (a1 : Int32) (a2 : Int32) (a3 : Int32) (w : gW) : Option (Int32 × gW) :=
  itr (fun rec (q : Nat × Int32 × Int32 × Int32 × gW) => f_Tn_both_b8 N rcg rec q.1 q.2.1 q.2.2.1 q.2.2.2.1 q.2.2.2.2) N (a0, a1, a2, a3, w)
def f_Tn_both_b0 (N : Nat) (rcg : Nat × Nat × Int32 × gW → Option (Int32 × gW)) (a0 : Nat) (a1 : Int32) (w : gW) : Option (Int32 × gW) :=
  gd ((sh w a0).1 = 7) <|
  kl (rcg (2, a0, a1, w)) fun x1 w2 =>
  f_Tn_both_l8 N rcg a0 a1 x1 0 w2
def f_Tn_single_b22 (N : Nat) (rcg : Nat × Nat × Int32 × gW → Option (Int32 × gW)) (a0 : Nat) (a1 : Int32) (a2 : Int32) (w : gW) : Option (Int32 × gW) :=
  cd (a1 < 4) (
    gd ((sh w a0).1 = 7) <|
    bd (gI w a0 12) fun x6 =>
    bd (x6 + 1) fun x7 =>
    bd (sI w a0 12 x7) fun w8 =>
    cd (a2 = 40) (
    bd (a1 + 1) fun x19 =>
    gd ((sh w8 a0).1 = 7) <|
    kl (rcg (0, a0, x19, w8)) fun x20 w21 =>
    cd (x20 = 0) (
      some (0, w21)) <|
    gd ((sh w21 a0).1 = 7) <|
    kl (f_Tn_takes N a0 41 w21) fun x24 w25 =>
    cd (x24 = 0) (
      some (0, w25)) <|
    some (1, w25)) <|
      bd (a1 + 1) fun x9 =>
      gd ((sh w8 a0).1 = 7) <|
      kl (rcg (2, a0, x9, w8)) fun x10 w11 =>
      gd ((sh w11 a0).1 = 7) <|
      kl (f_Tn_emit N a0 2 w11) fun x14 w15 =>
      gd (x10 = 0 ∨ x10 = 1) <|
      some (x10, w15)) <|
  some (0, w)
def f_Tn_single_b0 (N : Nat) (rcg : Nat × Nat × Int32 × gW → Option (Int32 × gW)) (a0 : Nat) (a1 : Int32) (w : gW) : Option (Int32 × gW) :=
  gd ((sh w a0).1 = 7) <|
  kl (f_Tn_ahead N a0 w) fun x1 w2 =>
  cd (x1 = 33) (
    f_Tn_single_b22 N rcg a0 a1 x1 w2) <|
  cd (x1 = 40) (
    f_Tn_single_b22 N rcg a0 a1 x1 w2) <|
  gd ((sh w2 a0).1 = 7) <|
  kl (f_Tn_test N a0 w2) fun x28 w29 =>
  gd (x28 = 0 ∨ x28 = 1) <|
  some (x28, w29)
/-- E, T, F of a text, by their numbers 0, 1, 2; at most so many calls deep -/
def f_grpS (N : Nat) (rec : Nat × Nat × Int32 × gW → Option (Int32 × gW)) (q : Nat × Nat × Int32 × gW) : Option (Int32 × gW) := cd (q.1 = 0) (f_Tn_either_b0 N rec q.2.1 q.2.2.1 q.2.2.2) <| cd (q.1 = 1) (f_Tn_both_b0 N rec q.2.1 q.2.2.1 q.2.2.2) <| cd (q.1 = 2) (f_Tn_single_b0 N rec q.2.1 q.2.2.1 q.2.2.2) none
def f_grp (N : Nat) : Nat → Nat × Nat × Int32 × gW → Option (Int32 × gW) := itr (f_grpS N)
def f_Tn_either (N : Nat) (a0 : Nat) (a1 : Int32) (w : gW) : Option (Int32 × gW) := f_grp N 20 (0, a0, a1, w)
def f_Tn_both (N : Nat) (a0 : Nat) (a1 : Int32) (w : gW) : Option (Int32 × gW) := f_grp N 20 (1, a0, a1, w)
def f_Tn_single (N : Nat) (a0 : Nat) (a1 : Int32) (w : gW) : Option (Int32 × gW) := f_grp N 20 (2, a0, a1, w)
def f_Pc_checkIndex_b9 (N : Nat) (a0 : Int32) (a1 : Int32) (w : gW) : Option (Int32 × gW) :=
  none
def f_Pc_checkIndex_b0 (N : Nat) (a0 : Int32) (a1 : Int32) (w : gW) : Option (Int32 × gW) :=
  cd (a0 < 0) (
    f_Pc_checkIndex_b9 N a0 a1 w) <|
  cd (a0 < a1) (
    some (a0, w)) <|
  f_Pc_checkIndex_b9 N a0 a1 w
def f_Pc_checkIndex (N : Nat) (a0 : Int32) (a1 : Int32) (w : gW) : Option (Int32 × gW) := f_Pc_checkIndex_b0 N a0 a1 w
def f_S_checkIndex_b0 (N : Nat) (a0 : Int32) (a1 : Int32) (w : gW) : Option (Unit × gW) :=
  kl (f_Pc_checkIndex N a0 a1 w) fun x2 w3 =>
  some ((), w3)
def f_S_checkIndex (N : Nat) (a0 : Int32) (a1 : Int32) (w : gW) : Option (Unit × gW) := f_S_checkIndex_b0 N a0 a1 w
def f_L1_charAt_b0 (N : Nat) (a0 : Nat) (a1 : Int32) (w : gW) : Option (Int32 × gW) :=
  gd (a0 < 5) <|
  bd (Int32.ofNat (gLen.getD a0 0)) fun x2 =>
  kl (f_S_checkIndex N a1 x2 w) fun x3 w4 =>
  gd (¬ (a1 < 0 ∨ gLen.getD a0 0 ≤ a1.toNatClampNeg)) <|
  bd ((gByt.getD a0 []).getD a1.toNatClampNeg 0) fun x7 =>
  bd (x7 &&& 255) fun x8 =>
  bd ((x8.toUInt32 % 65536).toInt32) fun x9 =>
  gd (narrow .char (.int x9) = .int x9) <|
  some (x9, w4)
def f_L1_charAt (N : Nat) (a0 : Nat) (a1 : Int32) (w : gW) : Option (Int32 × gW) := f_L1_charAt_b0 N a0 a1 w
def f_S_charAt_b0 (N : Nat) (a0 : Nat) (a1 : Int32) (w : gW) : Option (Int32 × gW) :=
  gd (a0 < 5) <|
  kl (f_S_isLatin1 N a0 w) fun x1 w2 =>
  cd (x1 = 0) (
    none) <|
  kl (f_L1_charAt N a0 a1 w2) fun x5 w6 =>
  gd (narrow .char (.int x5) = .int x5) <|
  some (x5, w6)
def f_S_charAt (N : Nat) (a0 : Nat) (a1 : Int32) (w : gW) : Option (Int32 × gW) := f_S_charAt_b0 N a0 a1 w
def f_Tn_takesWord_b24 (N : Nat) (rec24 : Nat × Nat × Int32 × gW → Option (Int32 × gW)) (a0 : Nat) (a2 : Nat) (a3 : Int32) (w : gW) : Option (Int32 × gW) :=
  gd (a2 < 5) <|
  kl (f_S_length N a2 w) fun x1 w2 =>
  cd (x1 ≤ a3) (
    some (1, w2)) <|
  kl (f_S_charAt N a2 a3 w2) fun x5 w6 =>
  gd ((sh w6 a0).1 = 7) <|
  kl (f_Tn_takes N a0 x5 w6) fun x8 w9 =>
  cd (x8 = 0) (
  some (0, w9)) <|
    bd (a3 + 1) fun x12 =>
    rec24 (a0, a2, x12, w9)
def f_Tn_takesWord_l24 (N : Nat) (a0 : Nat) (a2 : Nat) (a3 : Int32) (w : gW) : Option (Int32 × gW) :=
  itr (fun rec (q : Nat × Nat × Int32 × gW) => f_Tn_takesWord_b24 N rec q.1 q.2.1 q.2.2.1 q.2.2.2) N (a0, a2, a3, w)
def f_Tn_takesWord_b0 (N : Nat) (a0 : Nat) (a1 : Int32) (w : gW) : Option (Int32 × gW) :=
  cd (a1 = 0) (
  f_Tn_takesWord_l24 N a0 0 0 w) <|
    cd (a1 = 1) (
    f_Tn_takesWord_l24 N a0 1 0 w) <|
      f_Tn_takesWord_l24 N a0 2 0 w
def f_Tn_takesWord (N : Nat) (a0 : Nat) (a1 : Int32) (w : gW) : Option (Int32 × gW) := f_Tn_takesWord_b0 N a0 a1 w
def f_Tn_clause_b121 (N : Nat) (a0 : Nat) (a1 : Int32) (w : gW) : Option (Int32 × gW) :=
  gd ((sh w a0).1 = 7) <|
  rr (gR w a0 5) fun x53 =>
  bd (gI w a0 8) fun x55 =>
  gd ((sh w x53).1 = 50) <|
  gd (¬ (a1 < 0 ∨ (sh w x53).2 ≤ a1.toNatClampNeg)) <|
  bd (sI w x53 a1.toNatClampNeg x55) fun w58 =>
  gd ((sh w58 a0).1 = 7) <|
  bd (gI w58 a0 6) fun x60 =>
  bd (x60 + 1) fun x61 =>
  bd (sI w58 a0 6 x61) fun w62 =>
  some (1, w62)
def f_Tn_clause_b36 (N : Nat) (a0 : Nat) (a1 : Int32) (z0 : Int32) (z1 : Int32) (z2 : Nat) (w : gW) : Option (Int32 × gW) :=
  gd ((sh w z2).1 = 50) <|
  gd (¬ (z1 < 0 ∨ (sh w z2).2 ≤ z1.toNatClampNeg)) <|
  bd (sI w z2 z1.toNatClampNeg z0) fun w11 =>
  gd ((sh w11 a0).1 = 7) <|
  rr (gR w11 a0 4) fun x13 =>
  bd (gI w11 a0 8) fun x15 =>
  gd ((sh w11 x13).1 = 50) <|
  gd (¬ (a1 < 0 ∨ (sh w11 x13).2 ≤ a1.toNatClampNeg)) <|
  bd (sI w11 x13 a1.toNatClampNeg x15) fun w18 =>
  gd ((sh w18 a0).1 = 7) <|
  rr (gR w18 a0 2) fun x20 =>
  gd ((sh w18 x20).1 = 50) <|
  gd (¬ (a1 < 0 ∨ (sh w18 x20).2 ≤ a1.toNatClampNeg)) <|
  bd (gI w18 x20 a1.toNatClampNeg) fun x24 =>
  kl (f_Tn_takesWord N a0 x24 w18) fun x25 w26 =>
  cd (x25 = 0) (
    some (0, w26)) <|
  gd ((sh w26 a0).1 = 7) <|
  kl (f_Tn_takes N a0 32 w26) fun x28 w29 =>
  cd (x28 = 0) (
  some (0, w29)) <|
    gd ((sh w29 a0).1 = 7) <|
    rr (gR w29 a0 3) fun x33 =>
    kl (f_Tn_number N a0 w29) fun x35 w36 =>
    gd ((sh w36 x33).1 = 50) <|
    gd (¬ (a1 < 0 ∨ (sh w36 x33).2 ≤ a1.toNatClampNeg)) <|
    bd (sI w36 x33 a1.toNatClampNeg x35) fun w40 =>
    gd ((sh w40 a0).1 = 7) <|
    rr (gR w40 a0 3) fun x42 =>
    gd ((sh w40 x42).1 = 50) <|
    gd (¬ (a1 < 0 ∨ (sh w40 x42).2 ≤ a1.toNatClampNeg)) <|
    bd (gI w40 x42 a1.toNatClampNeg) fun x46 =>
    cd ((0 : Int32) ≤ x46) (
      rr (gR w40 a0 2) fun x47 =>
      gd ((sh w40 x47).1 = 50) <|
      gd (¬ (a1 < 0 ∨ (sh w40 x47).2 ≤ a1.toNatClampNeg)) <|
      bd (gI w40 x47 a1.toNatClampNeg) fun x51 =>
      cd (x51 = 2) (
        f_Tn_clause_b121 N a0 a1 w40) <|
      kl (f_Tn_takes N a0 32 w40) fun x63 w64 =>
      cd (x63 = 0) (
        some (0, w64)) <|
      gd ((sh w64 a0).1 = 7) <|
      kl (f_Tn_either N a0 0 w64) fun x66 w67 =>
      cd (x66 = 0) (
      some (0, w67)) <|
        f_Tn_clause_b121 N a0 a1 w67) <|
    some (0, w40)
def f_Tn_clause_b0 (N : Nat) (a0 : Nat) (w : gW) : Option (Int32 × gW) :=
  gd ((sh w a0).1 = 7) <|
  bd (gI w a0 6) fun x2 =>
  kl (f_Tn_ahead N a0 w) fun x3 w4 =>
  gd ((sh w4 a0).1 = 7) <|
  rr (gR w4 a0 2) fun x7 =>
  cd (x3 = 104) (
  f_Tn_clause_b36 N a0 x2 0 x2 x7 w4) <|
    cd (x3 = 107) (
    f_Tn_clause_b36 N a0 x2 1 x2 x7 w4) <|
      f_Tn_clause_b36 N a0 x2 2 x2 x7 w4
def f_Tn_clause (N : Nat) (a0 : Nat) (w : gW) : Option (Int32 × gW) := f_Tn_clause_b0 N a0 w
def f_Tn_findHefts_b70 (N : Nat) (rec39 : Nat × Int32 × Int32 × gW → Option (Unit × gW)) (a0 : Nat) (a1 : Int32) (a2 : Int32) (z0 : Int32) (z1 : Int32) (z2 : Nat) (w : gW) : Option (Unit × gW) :=
  gd ((sh w z2).1 = 50) <|
  gd (¬ (z1 < 0 ∨ (sh w z2).2 ≤ z1.toNatClampNeg)) <|
  bd (sI w z2 z1.toNatClampNeg z0) fun w13 =>
  bd (a2 + 1) fun x14 =>
  rec39 (a0, a1, x14, w13)
def f_Tn_findHefts_b39 (N : Nat) (rec39 : Nat × Int32 × Int32 × gW → Option (Unit × gW)) (a0 : Nat) (a1 : Int32) (a2 : Int32) (w : gW) : Option (Unit × gW) :=
  cd ((6 : Int32) ≤ a2) (
    some ((), w)) <|
  gd ((sh w a0).1 = 7) <|
  kl (f_Tn_factsOf N a0 a2 w) fun x3 w4 =>
  gd ((sh w4 a0).1 = 7) <|
  rr (gR w4 a0 0) fun x8 =>
  cd (a1 = 0) (
    bd (2 + a2) fun x10 =>
    f_Tn_findHefts_b70 N rec39 a0 a1 a2 x10 a2 x8 w4) <|
  kl (f_Tn_together N a0 0 w4) fun x15 w16 =>
  f_Tn_findHefts_b70 N rec39 a0 a1 a2 x15 a2 x8 w16
def f_Tn_findHefts_l39 (N : Nat) (a0 : Nat) (a1 : Int32) (a2 : Int32) (w : gW) : Option (Unit × gW) :=
  itr (fun rec (q : Nat × Int32 × Int32 × gW) => f_Tn_findHefts_b39 N rec q.1 q.2.1 q.2.2.1 q.2.2.2) N (a0, a1, a2, w)
def f_Tn_findHefts_b4 (N : Nat) (rec4 : Nat × Int32 × Int32 × gW → Option (Unit × gW)) (a0 : Nat) (a1 : Int32) (a2 : Int32) (w : gW) : Option (Unit × gW) :=
  gd ((sh w a0).1 = 7) <|
  bd (gI w a0 6) fun x2 =>
  cd (x2 ≤ a2) (
    f_Tn_findHefts_l39 N a0 a1 0 w) <|
  cd (a1 = 0) (
  rr (gR w a0 2) fun x19 =>
  gd ((sh w x19).1 = 50) <|
  gd (¬ (a2 < 0 ∨ (sh w x19).2 ≤ a2.toNatClampNeg)) <|
  bd (gI w x19 a2.toNatClampNeg) fun x23 =>
  cd (x23 = 0) (
  bd (a2 + 1) fun x25 =>
  rec4 (a0, 1, x25, w)) <|
    bd (a2 + 1) fun x24 =>
    rec4 (a0, 0, x24, w)) <|
    bd (a2 + 1) fun x18 =>
    rec4 (a0, 1, x18, w)
def f_Tn_findHefts_l4 (N : Nat) (a0 : Nat) (a1 : Int32) (a2 : Int32) (w : gW) : Option (Unit × gW) :=
  itr (fun rec (q : Nat × Int32 × Int32 × gW) => f_Tn_findHefts_b4 N rec q.1 q.2.1 q.2.2.1 q.2.2.2) N (a0, a1, a2, w)
def f_Tn_findHefts_b0 (N : Nat) (a0 : Nat) (w : gW) : Option (Unit × gW) :=
  f_Tn_findHefts_l4 N a0 0 0 w
def f_Tn_findHefts (N : Nat) (a0 : Nat) (w : gW) : Option (Unit × gW) := f_Tn_findHefts_b0 N a0 w
def f_Tn_findMost_b7 (N : Nat) (rec7 : Nat × Int32 × gW → Option (Unit × gW)) (a0 : Nat) (a1 : Int32) (w : gW) : Option (Unit × gW) :=
  gd ((sh w a0).1 = 7) <|
  bd (gI w a0 6) fun x4 =>
  cd (x4 ≤ a1) (
    some ((), w)) <|
  rr (gR w a0 2) fun x5 =>
  gd ((sh w x5).1 = 50) <|
  gd (¬ (a1 < 0 ∨ (sh w x5).2 ≤ a1.toNatClampNeg)) <|
  bd (gI w x5 a1.toNatClampNeg) fun x9 =>
  cd (x9 = 2) (
  rr (gR w a0 3) fun x11 =>
  gd ((sh w x11).1 = 50) <|
  gd (¬ (a1 < 0 ∨ (sh w x11).2 ≤ a1.toNatClampNeg)) <|
  bd (gI w x11 a1.toNatClampNeg) fun x15 =>
  bd (if x15 < (2 : Int32) then x15 else (2 : Int32)) fun x16 =>
  bd (sI w a0 1 x16) fun w17 =>
  bd (a1 + 1) fun x18 =>
  rec7 (a0, x18, w17)) <|
    bd (a1 + 1) fun x10 =>
    rec7 (a0, x10, w)
def f_Tn_findMost_l7 (N : Nat) (a0 : Nat) (a1 : Int32) (w : gW) : Option (Unit × gW) :=
  itr (fun rec (q : Nat × Int32 × gW) => f_Tn_findMost_b7 N rec q.1 q.2.1 q.2.2) N (a0, a1, w)
def f_Tn_findMost_b0 (N : Nat) (a0 : Nat) (w : gW) : Option (Unit × gW) :=
  gd ((sh w a0).1 = 7) <|
  bd (sI w a0 1 2) fun w2 =>
  f_Tn_findMost_l7 N a0 0 w2
def f_Tn_findMost (N : Nat) (a0 : Nat) (w : gW) : Option (Unit × gW) := f_Tn_findMost_b0 N a0 w
def f_Tn_faultOf_b92 (N : Nat) (a0 : Nat) (w : gW) : Option (Int32 × gW) :=
  gd ((sh w a0).1 = 7) <|
  bd (gI w a0 12) fun x16 =>
  some (x16, w)
def f_Tn_faultOf_b80 (N : Nat) (a0 : Nat) (a2 : Int32) (a3 : Int32) (w : gW) : Option (Int32 × gW) :=
  cd (a3 = 0) (
    f_Tn_faultOf_b92 N a0 w) <|
  gd ((sh w a0).1 = 7) <|
  bd (gI w a0 12) fun x18 =>
  cd (a2 ≤ x18) (
    kl (f_Tn_findMost N a0 w) fun x19 w20 =>
    gd ((sh w20 a0).1 = 7) <|
    kl (f_Tn_findHefts N a0 w20) fun x22 w23 =>
    some ((-1), w23)) <|
  f_Tn_faultOf_b92 N a0 w
def f_Tn_faultOf_b33 (N : Nat) (rec33 : Nat × Int32 × Int32 × Int32 × gW → Option (Int32 × gW)) (a0 : Nat) (a2 : Int32) (a3 : Int32) (a4 : Int32) (w : gW) : Option (Int32 × gW) :=
  cd ((10 : Int32) ≤ a4) (
    f_Tn_faultOf_b80 N a0 a2 a3 w) <|
  cd (a3 = 0) (
    f_Tn_faultOf_b80 N a0 a2 a3 w) <|
  gd ((sh w a0).1 = 7) <|
  bd (gI w a0 12) fun x27 =>
  cd (a2 ≤ x27) (
    f_Tn_faultOf_b80 N a0 a2 a3 w) <|
  kl (f_Tn_takes N a0 59 w) fun x28 w29 =>
  cd (x28 = 0) (
    bd (a4 + 1) fun x31 =>
    rec33 (a0, a2, 0, x31, w29)) <|
  gd ((sh w29 a0).1 = 7) <|
  kl (f_Tn_clause N a0 w29) fun x32 w33 =>
  cd (x32 = 0) (
    bd (a4 + 1) fun x36 =>
    rec33 (a0, a2, 0, x36, w33)) <|
  bd (a4 + 1) fun x37 =>
  rec33 (a0, a2, 1, x37, w33)
def f_Tn_faultOf_l33 (N : Nat) (a0 : Nat) (a2 : Int32) (a3 : Int32) (a4 : Int32) (w : gW) : Option (Int32 × gW) :=
  itr (fun rec (q : Nat × Int32 × Int32 × Int32 × gW) => f_Tn_faultOf_b33 N rec q.1 q.2.1 q.2.2.1 q.2.2.2.1 q.2.2.2.2) N (a0, a2, a3, a4, w)
def f_Tn_faultOf_b0 (N : Nat) (a0 : Nat) (a1 : Nat) (a2 : Int32) (w : gW) : Option (Int32 × gW) :=
  gd ((sh w a0).1 = 7) <|
  bd (sR w a0 10 (some a1)) fun w2 =>
  gd ((sh w2 a0).1 = 7) <|
  bd (sI w2 a0 11 a2) fun w4 =>
  gd ((sh w4 a0).1 = 7) <|
  bd (sI w4 a0 12 0) fun w6 =>
  gd ((sh w6 a0).1 = 7) <|
  bd (sI w6 a0 8 0) fun w8 =>
  gd ((sh w8 a0).1 = 7) <|
  bd (sI w8 a0 6 0) fun w10 =>
  gd ((sh w10 a0).1 = 7) <|
  kl (f_Tn_clause N a0 w10) fun x11 w12 =>
  f_Tn_faultOf_l33 N a0 a2 x11 1 w12
def f_Tn_faultOf (N : Nat) (a0 : Nat) (a1 : Nat) (a2 : Int32) (w : gW) : Option (Int32 × gW) := f_Tn_faultOf_b0 N a0 a1 a2 w
def f_Tr_init_b0 (N : Nat) (a0 : Nat) (w : gW) : Option (Unit × gW) :=
  bd (nx w) fun p1 =>
  bd (nw w 50 20) fun w2 =>
  gd ((sh w2 a0).1 = 8) <|
  bd (sR w2 a0 0 (some p1)) fun w4 =>
  gd ((sh w4 a0).1 = 8) <|
  bd (sI w4 a0 1 0) fun w6 =>
  some ((), w6)
def f_Tr_init (N : Nat) (a0 : Nat) (w : gW) : Option (Unit × gW) := f_Tr_init_b0 N a0 w
def f_Wi_init_b0 (N : Nat) (a0 : Nat) (a1 : Int32) (a2 : Int32) (w : gW) : Option (Unit × gW) :=
  gd ((sh w a0).1 < 7) <|
  kl (f_Ro_init N a0 5 a1 a2 w) fun x1 w2 =>
  some ((), w2)
def f_Wi_init (N : Nat) (a0 : Nat) (a1 : Int32) (a2 : Int32) (w : gW) : Option (Unit × gW) := f_Wi_init_b0 N a0 a1 a2 w
def f_Wi_tells_b0 (N : Nat) (a0 : Nat) (a1 : Int32) (a2 : Nat) (w : gW) : Option (Int32 × gW) :=
  gd ((sh w a2).1 = 8) <|
  kl (f_Tr_begins N a2 60 w) fun x1 w2 =>
  gd ((sh w2 a0).1 < 7) <|
  bd (gI w2 a0 1) fun x6 =>
  bd (a1 - x6) fun x7 =>
  kl (f_P_tells N a0 x7 a2 w2) fun x8 w9 =>
  some (x8, w9)
def f_Wi_tells (N : Nat) (a0 : Nat) (a1 : Int32) (a2 : Nat) (w : gW) : Option (Int32 × gW) := f_Wi_tells_b0 N a0 a1 a2 w
def f_Wo_init_b0 (N : Nat) (a0 : Nat) (a1 : Nat) (w : gW) : Option (Unit × gW) :=
  bd (nx w) fun p1 =>
  bd (nw w 54 4) fun w2 =>
  gd ((sh w2 a0).1 = 9) <|
  bd (sR w2 a0 0 (some p1)) fun w4 =>
  gd ((sh w4 a0).1 = 9) <|
  bd (sI w4 a0 1 0) fun w6 =>
  bd (nx w6) fun p7 =>
  bd (nm w6 56 50 4 6) fun w8 =>
  gd ((sh w8 a0).1 = 9) <|
  bd (sR w8 a0 2 (some p7)) fun w10 =>
  bd (nx w10) fun p11 =>
  bd (nm w10 56 50 4 4) fun w12 =>
  gd ((sh w12 a0).1 = 9) <|
  bd (sR w12 a0 3 (some p11)) fun w14 =>
  bd (nx w14) fun p15 =>
  bd (nw w14 50 4) fun w16 =>
  gd ((sh w16 a0).1 = 9) <|
  bd (sR w16 a0 4 (some p15)) fun w18 =>
  bd (nx w18) fun p19 =>
  bd (nw w18 50 6) fun w20 =>
  gd ((sh w20 a0).1 = 9) <|
  bd (sR w20 a0 5 (some p19)) fun w22 =>
  bd (nx w22) fun p23 =>
  bd (nw w22 50 4) fun w24 =>
  gd ((sh w24 a0).1 = 9) <|
  bd (sR w24 a0 6 (some p23)) fun w26 =>
  gd ((sh w26 a0).1 = 9) <|
  bd (sI w26 a0 7 0) fun w28 =>
  bd (nx w28) fun p29 =>
  bd (nw w28 50 4) fun w30 =>
  gd ((sh w30 a0).1 = 9) <|
  bd (sR w30 a0 8 (some p29)) fun w32 =>
  bd (nx w32) fun p33 =>
  bd (nw w32 50 4) fun w34 =>
  gd ((sh w34 a0).1 = 9) <|
  bd (sR w34 a0 9 (some p33)) fun w36 =>
  gd ((sh w36 a0).1 = 9) <|
  bd (sI w36 a0 10 0) fun w38 =>
  bd (nx w38) fun p39 =>
  bd (nw w38 50 8) fun w40 =>
  gd ((sh w40 a0).1 = 9) <|
  bd (sR w40 a0 11 (some p39)) fun w42 =>
  bd (nx w42) fun p43 =>
  bd (nw w42 50 8) fun w44 =>
  gd ((sh w44 a0).1 = 9) <|
  bd (sR w44 a0 12 (some p43)) fun w46 =>
  gd ((sh w46 a0).1 = 9) <|
  bd (sI w46 a0 13 0) fun w48 =>
  gd ((sh w48 a0).1 = 9) <|
  bd (sR w48 a0 14 (some a1)) fun w50 =>
  some ((), w50)
def f_Wo_init (N : Nat) (a0 : Nat) (a1 : Nat) (w : gW) : Option (Unit × gW) := f_Wo_init_b0 N a0 a1 w
set_option maxRecDepth 20000 in
def f_Wo_become_b2 (N : Nat) (rec2 : Nat × Nat × Int32 × gW → Option (Unit × gW)) (a0 : Nat) (a1 : Nat) (a2 : Int32) (w : gW) : Option (Unit × gW) :=
  cd ((4 : Int32) ≤ a2) (
    gd ((sh w a1).1 = 9) <|
    bd (gI w a1 1) fun x2 =>
    gd ((sh w a0).1 = 9) <|
    bd (sI w a0 1 x2) fun w4 =>
    gd ((sh w4 a1).1 = 9) <|
    rr (gR w4 a1 5) fun x6 =>
    gd ((sh w4 a0).1 = 9) <|
    rr (gR w4 a0 5) fun x9 =>
    gd ((sh w4 x6).1 = 50) <|
    gd ((sh w4 x9).1 = 50) <|
    gd ((0 : Int32).toNatClampNeg + (6 : Int32).toNatClampNeg ≤ (sh w4 x6).2) <|
    gd ((0 : Int32).toNatClampNeg + (6 : Int32).toNatClampNeg ≤ (sh w4 x9).2) <|
    bd (cI w4 x6 (0 : Int32).toNatClampNeg x9 (0 : Int32).toNatClampNeg (6 : Int32).toNatClampNeg) fun w15 =>
    gd ((sh w15 a1).1 = 9) <|
    rr (gR w15 a1 6) fun x17 =>
    gd ((sh w15 a0).1 = 9) <|
    rr (gR w15 a0 6) fun x20 =>
    gd ((sh w15 x17).1 = 50) <|
    gd ((sh w15 x20).1 = 50) <|
    gd ((0 : Int32).toNatClampNeg + (4 : Int32).toNatClampNeg ≤ (sh w15 x17).2) <|
    gd ((0 : Int32).toNatClampNeg + (4 : Int32).toNatClampNeg ≤ (sh w15 x20).2) <|
    bd (cI w15 x17 (0 : Int32).toNatClampNeg x20 (0 : Int32).toNatClampNeg (4 : Int32).toNatClampNeg) fun w26 =>
    gd ((sh w26 a1).1 = 9) <|
    bd (gI w26 a1 7) fun x28 =>
    gd ((sh w26 a0).1 = 9) <|
    bd (sI w26 a0 7 x28) fun w30 =>
    gd ((sh w30 a1).1 = 9) <|
    rr (gR w30 a1 8) fun x32 =>
    gd ((sh w30 a0).1 = 9) <|
    rr (gR w30 a0 8) fun x35 =>
    gd ((sh w30 x32).1 = 50) <|
    gd ((sh w30 x35).1 = 50) <|
    gd ((0 : Int32).toNatClampNeg + (4 : Int32).toNatClampNeg ≤ (sh w30 x32).2) <|
    gd ((0 : Int32).toNatClampNeg + (4 : Int32).toNatClampNeg ≤ (sh w30 x35).2) <|
    bd (cI w30 x32 (0 : Int32).toNatClampNeg x35 (0 : Int32).toNatClampNeg (4 : Int32).toNatClampNeg) fun w41 =>
    gd ((sh w41 a1).1 = 9) <|
    rr (gR w41 a1 9) fun x43 =>
    gd ((sh w41 a0).1 = 9) <|
    rr (gR w41 a0 9) fun x46 =>
    gd ((sh w41 x43).1 = 50) <|
    gd ((sh w41 x46).1 = 50) <|
    gd ((0 : Int32).toNatClampNeg + (4 : Int32).toNatClampNeg ≤ (sh w41 x43).2) <|
    gd ((0 : Int32).toNatClampNeg + (4 : Int32).toNatClampNeg ≤ (sh w41 x46).2) <|
    bd (cI w41 x43 (0 : Int32).toNatClampNeg x46 (0 : Int32).toNatClampNeg (4 : Int32).toNatClampNeg) fun w52 =>
    gd ((sh w52 a1).1 = 9) <|
    bd (gI w52 a1 10) fun x54 =>
    gd ((sh w52 a0).1 = 9) <|
    bd (sI w52 a0 10 x54) fun w56 =>
    gd ((sh w56 a1).1 = 9) <|
    rr (gR w56 a1 11) fun x58 =>
    gd ((sh w56 a0).1 = 9) <|
    rr (gR w56 a0 11) fun x61 =>
    gd ((sh w56 x58).1 = 50) <|
    gd ((sh w56 x61).1 = 50) <|
    gd ((0 : Int32).toNatClampNeg + (8 : Int32).toNatClampNeg ≤ (sh w56 x58).2) <|
    gd ((0 : Int32).toNatClampNeg + (8 : Int32).toNatClampNeg ≤ (sh w56 x61).2) <|
    bd (cI w56 x58 (0 : Int32).toNatClampNeg x61 (0 : Int32).toNatClampNeg (8 : Int32).toNatClampNeg) fun w67 =>
    gd ((sh w67 a1).1 = 9) <|
    rr (gR w67 a1 12) fun x69 =>
    gd ((sh w67 a0).1 = 9) <|
    rr (gR w67 a0 12) fun x72 =>
    gd ((sh w67 x69).1 = 50) <|
    gd ((sh w67 x72).1 = 50) <|
    gd ((0 : Int32).toNatClampNeg + (8 : Int32).toNatClampNeg ≤ (sh w67 x69).2) <|
    gd ((0 : Int32).toNatClampNeg + (8 : Int32).toNatClampNeg ≤ (sh w67 x72).2) <|
    bd (cI w67 x69 (0 : Int32).toNatClampNeg x72 (0 : Int32).toNatClampNeg (8 : Int32).toNatClampNeg) fun w78 =>
    gd ((sh w78 a1).1 = 9) <|
    bd (gI w78 a1 13) fun x80 =>
    gd ((sh w78 a0).1 = 9) <|
    bd (sI w78 a0 13 x80) fun w82 =>
    gd ((sh w82 a1).1 = 9) <|
    rr (gR w82 a1 14) fun x84 =>
    gd ((sh w82 a0).1 = 9) <|
    bd (sR w82 a0 14 (some x84)) fun w87 =>
    some ((), w87)) <|
  gd ((sh w a0).1 = 9) <|
  rr (gR w a0 0) fun x89 =>
  gd ((sh w a1).1 = 9) <|
  rr (gR w a1 0) fun x92 =>
  gd ((sh w x92).1 = 54) <|
  gd (¬ (a2 < 0 ∨ (sh w x92).2 ≤ a2.toNatClampNeg)) <|
  nr (gR w x92 a2.toNatClampNeg) (
    gd ((sh w x89).1 = 54) <|
    gd (¬ (a2 < 0 ∨ (sh w x89).2 ≤ a2.toNatClampNeg)) <|
    bd (sR w x89 a2.toNatClampNeg none) fun w100 =>
    gd ((sh w100 a0).1 = 9) <|
    rr (gR w100 a0 4) fun x102 =>
    gd ((sh w100 a1).1 = 9) <|
    rr (gR w100 a1 4) fun x105 =>
    gd ((sh w100 x105).1 = 50) <|
    gd (¬ (a2 < 0 ∨ (sh w100 x105).2 ≤ a2.toNatClampNeg)) <|
    bd (gI w100 x105 a2.toNatClampNeg) fun x109 =>
    gd ((sh w100 x102).1 = 50) <|
    gd (¬ (a2 < 0 ∨ (sh w100 x102).2 ≤ a2.toNatClampNeg)) <|
    bd (sI w100 x102 a2.toNatClampNeg x109) fun w112 =>
    gd ((sh w112 a1).1 = 9) <|
    rr (gR w112 a1 2) fun x114 =>
    gd ((sh w112 x114).1 = 56) <|
    gd (¬ (a2 < 0 ∨ (sh w112 x114).2 ≤ a2.toNatClampNeg)) <|
    rr (gR w112 x114 a2.toNatClampNeg) fun x118 =>
    gd ((sh w112 a0).1 = 9) <|
    rr (gR w112 a0 2) fun x121 =>
    gd ((sh w112 x121).1 = 56) <|
    gd (¬ (a2 < 0 ∨ (sh w112 x121).2 ≤ a2.toNatClampNeg)) <|
    rr (gR w112 x121 a2.toNatClampNeg) fun x125 =>
    gd ((sh w112 x118).1 = 50) <|
    gd ((sh w112 x125).1 = 50) <|
    gd ((0 : Int32).toNatClampNeg + (6 : Int32).toNatClampNeg ≤ (sh w112 x118).2) <|
    gd ((0 : Int32).toNatClampNeg + (6 : Int32).toNatClampNeg ≤ (sh w112 x125).2) <|
    bd (cI w112 x118 (0 : Int32).toNatClampNeg x125 (0 : Int32).toNatClampNeg (6 : Int32).toNatClampNeg) fun w131 =>
    gd ((sh w131 a1).1 = 9) <|
    rr (gR w131 a1 3) fun x133 =>
    gd ((sh w131 x133).1 = 56) <|
    gd (¬ (a2 < 0 ∨ (sh w131 x133).2 ≤ a2.toNatClampNeg)) <|
    rr (gR w131 x133 a2.toNatClampNeg) fun x137 =>
    gd ((sh w131 a0).1 = 9) <|
    rr (gR w131 a0 3) fun x140 =>
    gd ((sh w131 x140).1 = 56) <|
    gd (¬ (a2 < 0 ∨ (sh w131 x140).2 ≤ a2.toNatClampNeg)) <|
    rr (gR w131 x140 a2.toNatClampNeg) fun x144 =>
    gd ((sh w131 x137).1 = 50) <|
    gd ((sh w131 x144).1 = 50) <|
    gd ((0 : Int32).toNatClampNeg + (4 : Int32).toNatClampNeg ≤ (sh w131 x137).2) <|
    gd ((0 : Int32).toNatClampNeg + (4 : Int32).toNatClampNeg ≤ (sh w131 x144).2) <|
    bd (cI w131 x137 (0 : Int32).toNatClampNeg x144 (0 : Int32).toNatClampNeg (4 : Int32).toNatClampNeg) fun w150 =>
    bd (a2 + 1) fun x151 =>
    rec2 (a0, a1, x151, w150)) fun x96 =>
  gd ((sh w x89).1 = 54) <|
  gd (¬ (a2 < 0 ∨ (sh w x89).2 ≤ a2.toNatClampNeg)) <|
  gd ((sh w x96).1 < 7) <|
  bd (sR w x89 a2.toNatClampNeg (some x96)) fun w155 =>
  gd ((sh w155 a0).1 = 9) <|
  rr (gR w155 a0 4) fun x157 =>
  gd ((sh w155 a1).1 = 9) <|
  rr (gR w155 a1 4) fun x160 =>
  gd ((sh w155 x160).1 = 50) <|
  gd (¬ (a2 < 0 ∨ (sh w155 x160).2 ≤ a2.toNatClampNeg)) <|
  bd (gI w155 x160 a2.toNatClampNeg) fun x164 =>
  gd ((sh w155 x157).1 = 50) <|
  gd (¬ (a2 < 0 ∨ (sh w155 x157).2 ≤ a2.toNatClampNeg)) <|
  bd (sI w155 x157 a2.toNatClampNeg x164) fun w167 =>
  gd ((sh w167 a1).1 = 9) <|
  rr (gR w167 a1 2) fun x169 =>
  gd ((sh w167 x169).1 = 56) <|
  gd (¬ (a2 < 0 ∨ (sh w167 x169).2 ≤ a2.toNatClampNeg)) <|
  rr (gR w167 x169 a2.toNatClampNeg) fun x173 =>
  gd ((sh w167 a0).1 = 9) <|
  rr (gR w167 a0 2) fun x176 =>
  gd ((sh w167 x176).1 = 56) <|
  gd (¬ (a2 < 0 ∨ (sh w167 x176).2 ≤ a2.toNatClampNeg)) <|
  rr (gR w167 x176 a2.toNatClampNeg) fun x180 =>
  gd ((sh w167 x173).1 = 50) <|
  gd ((sh w167 x180).1 = 50) <|
  gd ((0 : Int32).toNatClampNeg + (6 : Int32).toNatClampNeg ≤ (sh w167 x173).2) <|
  gd ((0 : Int32).toNatClampNeg + (6 : Int32).toNatClampNeg ≤ (sh w167 x180).2) <|
  bd (cI w167 x173 (0 : Int32).toNatClampNeg x180 (0 : Int32).toNatClampNeg (6 : Int32).toNatClampNeg) fun w186 =>
  gd ((sh w186 a1).1 = 9) <|
  rr (gR w186 a1 3) fun x188 =>
  gd ((sh w186 x188).1 = 56) <|
  gd (¬ (a2 < 0 ∨ (sh w186 x188).2 ≤ a2.toNatClampNeg)) <|
  rr (gR w186 x188 a2.toNatClampNeg) fun x192 =>
  gd ((sh w186 a0).1 = 9) <|
  rr (gR w186 a0 3) fun x195 =>
  gd ((sh w186 x195).1 = 56) <|
  gd (¬ (a2 < 0 ∨ (sh w186 x195).2 ≤ a2.toNatClampNeg)) <|
  rr (gR w186 x195 a2.toNatClampNeg) fun x199 =>
  gd ((sh w186 x192).1 = 50) <|
  gd ((sh w186 x199).1 = 50) <|
  gd ((0 : Int32).toNatClampNeg + (4 : Int32).toNatClampNeg ≤ (sh w186 x192).2) <|
  gd ((0 : Int32).toNatClampNeg + (4 : Int32).toNatClampNeg ≤ (sh w186 x199).2) <|
  bd (cI w186 x192 (0 : Int32).toNatClampNeg x199 (0 : Int32).toNatClampNeg (4 : Int32).toNatClampNeg) fun w205 =>
  bd (a2 + 1) fun x206 =>
  rec2 (a0, a1, x206, w205)
def f_Wo_become_l2 (N : Nat) (a0 : Nat) (a1 : Nat) (a2 : Int32) (w : gW) : Option (Unit × gW) :=
  itr (fun rec (q : Nat × Nat × Int32 × gW) => f_Wo_become_b2 N rec q.1 q.2.1 q.2.2.1 q.2.2.2) N (a0, a1, a2, w)
def f_Wo_become_b0 (N : Nat) (a0 : Nat) (a1 : Nat) (w : gW) : Option (Unit × gW) :=
  f_Wo_become_l2 N a0 a1 0 w
def f_Wo_become (N : Nat) (a0 : Nat) (a1 : Nat) (w : gW) : Option (Unit × gW) := f_Wo_become_b0 N a0 a1 w
def f_Wo_weight_b4 (N : Nat) (rec4 : Nat × Int32 × Int32 × Int32 × gW → Option (Int32 × gW)) (a0 : Nat) (a1 : Int32) (a2 : Int32) (a3 : Int32) (w : gW) : Option (Int32 × gW) :=
  cd ((6 : Int32) ≤ a3) (
    some (a2, w)) <|
  gd ((sh w a0).1 = 9) <|
  rr (gR w a0 2) fun x2 =>
  gd ((sh w x2).1 = 56) <|
  gd (¬ (a1 < 0 ∨ (sh w x2).2 ≤ a1.toNatClampNeg)) <|
  rr (gR w x2 a1.toNatClampNeg) fun x6 =>
  gd ((sh w x6).1 = 50) <|
  gd (¬ (a3 < 0 ∨ (sh w x6).2 ≤ a3.toNatClampNeg)) <|
  bd (gI w x6 a3.toNatClampNeg) fun x10 =>
  rr (gR w a0 14) fun x11 =>
  gd ((sh w x11).1 = 7) <|
  rr (gR w x11 0) fun x14 =>
  gd ((sh w x14).1 = 50) <|
  gd (¬ (a3 < 0 ∨ (sh w x14).2 ≤ a3.toNatClampNeg)) <|
  bd (gI w x14 a3.toNatClampNeg) fun x18 =>
  bd (x10 * x18) fun x19 =>
  bd (a2 + x19) fun x20 =>
  bd (a3 + 1) fun x21 =>
  rec4 (a0, a1, x20, x21, w)
def f_Wo_weight_l4 (N : Nat) (a0 : Nat) (a1 : Int32) (a2 : Int32) (a3 : Int32) (w : gW) : Option (Int32 × gW) :=
  itr (fun rec (q : Nat × Int32 × Int32 × Int32 × gW) => f_Wo_weight_b4 N rec q.1 q.2.1 q.2.2.1 q.2.2.2.1 q.2.2.2.2) N (a0, a1, a2, a3, w)
def f_Wo_weight_b0 (N : Nat) (a0 : Nat) (a1 : Int32) (w : gW) : Option (Int32 × gW) :=
  f_Wo_weight_l4 N a0 a1 0 0 w
def f_Wo_weight (N : Nat) (a0 : Nat) (a1 : Int32) (w : gW) : Option (Int32 × gW) := f_Wo_weight_b0 N a0 a1 w
def f_Wo_worth_b4 (N : Nat) (rec4 : Nat × Int32 × Int32 × Int32 × gW → Option (Int32 × gW)) (a0 : Nat) (a1 : Int32) (a2 : Int32) (a3 : Int32) (w : gW) : Option (Int32 × gW) :=
  cd ((6 : Int32) ≤ a3) (
    some (a2, w)) <|
  gd ((sh w a0).1 = 9) <|
  rr (gR w a0 2) fun x2 =>
  gd ((sh w x2).1 = 56) <|
  gd (¬ (a1 < 0 ∨ (sh w x2).2 ≤ a1.toNatClampNeg)) <|
  rr (gR w x2 a1.toNatClampNeg) fun x6 =>
  gd ((sh w x6).1 = 50) <|
  gd (¬ (a3 < 0 ∨ (sh w x6).2 ≤ a3.toNatClampNeg)) <|
  bd (gI w x6 a3.toNatClampNeg) fun x10 =>
  gd (¬ (a3 < 0 ∨ 6 ≤ a3.toNatClampNeg)) <|
  bd (gWorth a3.toNatClampNeg) fun x12 =>
  bd (x10 * x12) fun x13 =>
  bd (a2 + x13) fun x14 =>
  bd (a3 + 1) fun x15 =>
  rec4 (a0, a1, x14, x15, w)
def f_Wo_worth_l4 (N : Nat) (a0 : Nat) (a1 : Int32) (a2 : Int32) (a3 : Int32) (w : gW) : Option (Int32 × gW) :=
  itr (fun rec (q : Nat × Int32 × Int32 × Int32 × gW) => f_Wo_worth_b4 N rec q.1 q.2.1 q.2.2.1 q.2.2.2.1 q.2.2.2.2) N (a0, a1, a2, a3, w)
def f_Wo_worth_b0 (N : Nat) (a0 : Nat) (a1 : Int32) (w : gW) : Option (Int32 × gW) :=
  f_Wo_worth_l4 N a0 a1 0 0 w
def f_Wo_worth (N : Nat) (a0 : Nat) (a1 : Int32) (w : gW) : Option (Int32 × gW) := f_Wo_worth_b0 N a0 a1 w
def f_X_init_b196 (N : Nat) (rec196 : Nat × Int32 × Nat × Nat × gW → Option (Unit × gW)) (a0 : Nat) (a1 : Int32) (kc : Nat) (ks : Nat) (w : gW) : Option (Unit × gW) :=
  cd ((6 : Int32) ≤ a1) (
    gd (kc ≤ 132 ∧ ks ≤ 2016) <|
    some ((), w)) <|
  gd ((sh w a0).1 = 11) <|
  rr (gR w a0 11) fun x86 =>
  gd ((sh w x86).1 = 50) <|
  gd (¬ (a1 < 0 ∨ (sh w x86).2 ≤ a1.toNatClampNeg)) <|
  bd (sI w x86 a1.toNatClampNeg (-1)) fun w90 =>
  bd (a1 + 1) fun x91 =>
  rec196 (a0, x91, kc, ks, w90)
def f_X_init_l196 (N : Nat) (a0 : Nat) (a1 : Int32) (kc : Nat) (ks : Nat) (w : gW) : Option (Unit × gW) :=
  itr (fun rec (q : Nat × Int32 × Nat × Nat × gW) => f_X_init_b196 N rec q.1 q.2.1 q.2.2.1 q.2.2.2.1 q.2.2.2.2) N (a0, a1, kc, ks, w)
def f_X_init_b169 (N : Nat) (rec169 : Nat × Int32 × Nat × Nat × gW → Option (Unit × gW)) (a0 : Nat) (a1 : Int32) (kc : Nat) (ks : Nat) (w : gW) : Option (Unit × gW) :=
  cd ((6 : Int32) ≤ a1) (
    f_X_init_l196 N a0 0 kc ks w) <|
  gd ((sh w a0).1 = 11) <|
  rr (gR w a0 6) fun x93 =>
  gd (kc + 1 ≤ 132 ∧ ks + 13 ≤ 2016) <|
  bd (nx w) fun p96 =>
  bd (nw w 7 0) fun w97 =>
  gd ((sh w97 p96).1 = 7) <|
  gd ((kc + 1) + 7 ≤ 132 ∧ (ks + 13) + 152 ≤ 2016) <|
  kl (f_Tn_init N p96 w97) fun x98 w99 =>
  gd ((sh w99 x93).1 = 55) <|
  gd (¬ (a1 < 0 ∨ (sh w99 x93).2 ≤ a1.toNatClampNeg)) <|
  gd ((sh w99 p96).1 = 7) <|
  bd (sR w99 x93 a1.toNatClampNeg (some p96)) fun w106 =>
  bd (a1 + 1) fun x107 =>
  rec169 (a0, x107, ((kc + 1) + 7), ((ks + 13) + 152), w106)
def f_X_init_l169 (N : Nat) (a0 : Nat) (a1 : Int32) (kc : Nat) (ks : Nat) (w : gW) : Option (Unit × gW) :=
  itr (fun rec (q : Nat × Int32 × Nat × Nat × gW) => f_X_init_b169 N rec q.1 q.2.1 q.2.2.1 q.2.2.2.1 q.2.2.2.2) N (a0, a1, kc, ks, w)
def f_X_init_b144 (N : Nat) (rec144 : Nat × Int32 × Nat × Nat × gW → Option (Unit × gW)) (a0 : Nat) (a1 : Int32) (kc : Nat) (ks : Nat) (w : gW) : Option (Unit × gW) :=
  cd ((6 : Int32) ≤ a1) (
    f_X_init_l169 N a0 0 kc ks w) <|
  gd ((sh w a0).1 = 11) <|
  rr (gR w a0 1) fun x109 =>
  gd ((sh w x109).1 = 9) <|
  rr (gR w x109 5) fun x112 =>
  gd ((sh w x112).1 = 50) <|
  gd (¬ (a1 < 0 ∨ (sh w x112).2 ≤ a1.toNatClampNeg)) <|
  bd (sI w x112 a1.toNatClampNeg 9) fun w116 =>
  bd (a1 + 1) fun x117 =>
  rec144 (a0, x117, kc, ks, w116)
def f_X_init_l144 (N : Nat) (a0 : Nat) (a1 : Int32) (kc : Nat) (ks : Nat) (w : gW) : Option (Unit × gW) :=
  itr (fun rec (q : Nat × Int32 × Nat × Nat × gW) => f_X_init_b144 N rec q.1 q.2.1 q.2.2.1 q.2.2.2.1 q.2.2.2.2) N (a0, a1, kc, ks, w)
def f_X_init_b0 (N : Nat) (a0 : Nat) (w : gW) : Option (Unit × gW) :=
  bd (nx w) fun p1 =>
  bd (nw w 7 0) fun w2 =>
  gd ((sh w2 p1).1 = 7) <|
  kl (f_Tn_init N p1 w2) fun x3 w4 =>
  gd ((sh w4 a0).1 = 11) <|
  bd (sR w4 a0 0 (some p1)) fun w8 =>
  bd (nx w8) fun p9 =>
  bd (nw w8 9 0) fun w10 =>
  gd ((sh w10 a0).1 = 11) <|
  rr (gR w10 a0 0) fun x12 =>
  gd ((sh w10 p9).1 = 9) <|
  kl (f_Wo_init N p9 x12 w10) fun x14 w15 =>
  gd ((sh w15 a0).1 = 11) <|
  bd (sR w15 a0 1 (some p9)) fun w19 =>
  bd (nx w19) fun p20 =>
  bd (nw w19 9 0) fun w21 =>
  gd ((sh w21 a0).1 = 11) <|
  rr (gR w21 a0 0) fun x23 =>
  gd ((sh w21 p20).1 = 9) <|
  kl (f_Wo_init N p20 x23 w21) fun x25 w26 =>
  gd ((sh w26 a0).1 = 11) <|
  bd (sR w26 a0 2 (some p20)) fun w30 =>
  bd (nx w30) fun p31 =>
  bd (nw w30 9 0) fun w32 =>
  gd ((sh w32 a0).1 = 11) <|
  rr (gR w32 a0 0) fun x34 =>
  gd ((sh w32 p31).1 = 9) <|
  kl (f_Wo_init N p31 x34 w32) fun x36 w37 =>
  gd ((sh w37 a0).1 = 11) <|
  bd (sR w37 a0 3 (some p31)) fun w41 =>
  gd ((sh w41 a0).1 = 11) <|
  bd (sI w41 a0 4 0) fun w43 =>
  bd (nx w43) fun p44 =>
  bd (nw w43 10 0) fun w45 =>
  gd ((sh w45 p44).1 = 10) <|
  kl (f_Pm_init N p44 w45) fun x46 w47 =>
  gd ((sh w47 a0).1 = 11) <|
  bd (sR w47 a0 5 (some p44)) fun w51 =>
  bd (nx w51) fun p52 =>
  bd (nw w51 55 6) fun w53 =>
  gd ((sh w53 a0).1 = 11) <|
  bd (sR w53 a0 6 (some p52)) fun w55 =>
  gd ((sh w55 a0).1 = 11) <|
  bd (sI w55 a0 7 0) fun w57 =>
  bd (nx w57) fun p58 =>
  bd (nw w57 51 100) fun w59 =>
  gd ((sh w59 a0).1 = 11) <|
  bd (sR w59 a0 8 (some p58)) fun w61 =>
  gd ((sh w61 a0).1 = 11) <|
  bd (sI w61 a0 9 0) fun w63 =>
  bd (nx w63) fun p64 =>
  bd (nw w63 8 0) fun w65 =>
  gd ((sh w65 p64).1 = 8) <|
  kl (f_Tr_init N p64 w65) fun x66 w67 =>
  gd ((sh w67 a0).1 = 11) <|
  bd (sR w67 a0 10 (some p64)) fun w71 =>
  bd (nx w71) fun p72 =>
  bd (nw w71 50 6) fun w73 =>
  gd ((sh w73 a0).1 = 11) <|
  bd (sR w73 a0 11 (some p72)) fun w75 =>
  bd (nx w75) fun p76 =>
  bd (nw w75 50 6) fun w77 =>
  gd ((sh w77 a0).1 = 11) <|
  bd (sR w77 a0 12 (some p76)) fun w79 =>
  bd (nx w79) fun p80 =>
  bd (nm w79 57 52 6 60) fun w81 =>
  gd ((sh w81 a0).1 = 11) <|
  bd (sR w81 a0 13 (some p80)) fun w83 =>
  f_X_init_l144 N a0 0 84 1026 w83
def f_X_init (N : Nat) (a0 : Nat) (w : gW) : Option (Unit × gW) := f_X_init_b0 N a0 w
def f_X_newPayer_b0 (N : Nat) (a0 : Int32) (a1 : Int32) (a2 : Int32) (w : gW) : Option (Option Nat × gW) :=
  cd (a0 = 1) (
    bd (nx w) fun p2 =>
    bd (nw w 1 0) fun w3 =>
    gd ((sh w3 p2).1 < 7) <|
    kl (f_E_init N p2 1 a1 a2 w3) fun x4 w5 =>
    some (some p2, w5)) <|
  cd (a0 = 2) (
    bd (nx w) fun p9 =>
    bd (nw w 2 0) fun w10 =>
    gd ((sh w10 p9).1 < 7) <|
    kl (f_Ro_init N p9 2 a1 a2 w10) fun x11 w12 =>
    some (some p9, w12)) <|
  cd (a0 = 3) (
    bd (nx w) fun p16 =>
    bd (nw w 3 0) fun w17 =>
    gd ((sh w17 p16).1 < 7) <|
    kl (f_Ke_init N p16 3 a1 a2 w17) fun x18 w19 =>
    some (some p16, w19)) <|
  cd (a0 = 4) (
    bd (nx w) fun p23 =>
    bd (nw w 4 0) fun w24 =>
    gd ((sh w24 p23).1 < 7) <|
    kl (f_Li_init N p23 a1 a2 w24) fun x25 w26 =>
    some (some p23, w26)) <|
  cd (a0 = 5) (
    bd (nx w) fun p30 =>
    bd (nw w 5 0) fun w31 =>
    gd ((sh w31 p30).1 < 7) <|
    kl (f_Wi_init N p30 a1 a2 w31) fun x32 w33 =>
    some (some p30, w33)) <|
  cd (a0 = 6) (
    bd (nx w) fun p37 =>
    bd (nw w 6 0) fun w38 =>
    gd ((sh w38 p37).1 < 7) <|
    kl (f_To_init N p37 a1 a2 w38) fun x39 w40 =>
    some (some p37, w40)) <|
  bd (nx w) fun p43 =>
  bd (nw w 0 0) fun w44 =>
  gd ((sh w44 p43).1 < 7) <|
  kl (f_P_init N p43 0 a1 a2 w44) fun x45 w46 =>
  some (some p43, w46)
def f_X_newPayer (N : Nat) (a0 : Int32) (a1 : Int32) (a2 : Int32) (w : gW) : Option (Option Nat × gW) := f_X_newPayer_b0 N a0 a1 a2 w
def f_X_payer_b0 (N : Nat) (a0 : Nat) (a1 : Int32) (a2 : Int32) (w : gW) : Option (Int32 × gW) :=
  cd (a1 < 0) (
    some ((-1), w)) <|
  cd (a1 < 7) (
    cd (a2 < 0) (
      some ((-2), w)) <|
    cd (a2 ≤ 9) (
      gd ((sh w a0).1 = 11) <|
      rr (gR w a0 1) fun x2 =>
      gd ((sh w x2).1 = 9) <|
      bd (gI w x2 1) fun x5 =>
      cd (x5 < 4) (
        bd (gI w x2 1) fun x6 =>
        rr (gR w x2 0) fun x7 =>
        kl (f_X_newPayer N a1 x6 a2 w) fun x9 w10 =>
        rr x9 fun x12 =>
        gd ((sh w10 x7).1 = 54) <|
        gd (¬ (x6 < 0 ∨ (sh w10 x7).2 ≤ x6.toNatClampNeg)) <|
        gd ((sh w10 x12).1 < 7) <|
        bd (sR w10 x7 x6.toNatClampNeg (some x12)) fun w17 =>
        gd ((sh w17 a0).1 = 11) <|
        rr (gR w17 a0 1) fun x19 =>
        gd ((sh w17 x19).1 = 9) <|
        bd (gI w17 x19 1) fun x22 =>
        bd (x22 + 1) fun x23 =>
        bd (sI w17 x19 1 x23) fun w24 =>
        some (x6, w24)) <|
      some ((-4), w)) <|
    some ((-2), w)) <|
  some ((-1), w)
def f_X_payer (N : Nat) (a0 : Nat) (a1 : Int32) (a2 : Int32) (w : gW) : Option (Int32 × gW) := f_X_payer_b0 N a0 a1 a2 w
def f_X_isSort_b0 (N : Nat) (a0 : Int32) (w : gW) : Option (Int32 × gW) :=
  cd (a0 < 0) (
    some (0, w)) <|
  cd ((6 : Int32) ≤ a0) (
    some (0, w)) <|
  some (1, w)
def f_X_isSort (N : Nat) (a0 : Int32) (w : gW) : Option (Int32 × gW) := f_X_isSort_b0 N a0 w
def f_X_payerAt_b0 (N : Nat) (a0 : Nat) (a1 : Int32) (w : gW) : Option (Option Nat × gW) :=
  cd (a1 < 0) (
    some (none, w)) <|
  gd ((sh w a0).1 = 11) <|
  rr (gR w a0 1) fun x2 =>
  gd ((sh w x2).1 = 9) <|
  bd (gI w x2 1) fun x5 =>
  cd (a1 < x5) (
    rr (gR w x2 0) fun x6 =>
    gd ((sh w x6).1 = 54) <|
    gd (¬ (a1 < 0 ∨ (sh w x6).2 ≤ a1.toNatClampNeg)) <|
    nr (gR w x6 a1.toNatClampNeg) (
      some (none, w)) fun x10 =>
    some (some x10, w)) <|
  some (none, w)
def f_X_payerAt (N : Nat) (a0 : Nat) (a1 : Int32) (w : gW) : Option (Option Nat × gW) := f_X_payerAt_b0 N a0 a1 w
def f_X_of_b0 (N : Nat) (a0 : Nat) (a1 : Int32) (a2 : Int32) (w : gW) : Option (Int32 × gW) :=
  gd ((sh w a0).1 = 11) <|
  kl (f_X_payerAt N a0 a1 w) fun x1 w2 =>
  nr x1 (
    some ((-1), w2)) fun x5 =>
  bd (a2 - 10) fun x7 =>
  kl (f_X_isSort N x7 w2) fun x8 w9 =>
  cd (x8 = 0) (
    bd (a2 - 20) fun x11 =>
    kl (f_X_isSort N x11 w9) fun x12 w13 =>
    cd (x12 = 0) (
      cd (a2 = 0) (
        gd ((sh w13 x5).1 < 7) <|
        bd (gI w13 x5 0) fun x17 =>
        some (x17, w13)) <|
      cd (a2 = 1) (
        gd ((sh w13 x5).1 < 7) <|
        bd (gI w13 x5 2) fun x20 =>
        some (x20, w13)) <|
      cd (a2 = 2) (
        gd ((sh w13 a0).1 = 11) <|
        rr (gR w13 a0 1) fun x23 =>
        gd ((sh w13 x23).1 = 9) <|
        rr (gR w13 x23 4) fun x26 =>
        gd ((sh w13 x26).1 = 50) <|
        gd (¬ (a1 < 0 ∨ (sh w13 x26).2 ≤ a1.toNatClampNeg)) <|
        bd (gI w13 x26 a1.toNatClampNeg) fun x30 =>
        some (x30, w13)) <|
      cd (a2 = 3) (
        gd ((sh w13 a0).1 = 11) <|
        rr (gR w13 a0 1) fun x33 =>
        gd ((sh w13 x33).1 = 9) <|
        kl (f_Wo_weight N x33 a1 w13) fun x35 w36 =>
        some (x35, w36)) <|
      cd (a2 = 4) (
        gd ((sh w13 a0).1 = 11) <|
        rr (gR w13 a0 1) fun x41 =>
        gd ((sh w13 x41).1 = 9) <|
        kl (f_Wo_coins N x41 a1 w13) fun x43 w44 =>
        some (x43, w44)) <|
      some ((-1), w13)) <|
    gd ((sh w13 a0).1 = 11) <|
    rr (gR w13 a0 1) fun x48 =>
    gd ((sh w13 x48).1 = 9) <|
    rr (gR w13 x48 14) fun x51 =>
    bd (a2 - 20) fun x53 =>
    gd ((sh w13 x51).1 = 7) <|
    kl (f_Tn_kept N x51 x48 x5 x53 w13) fun x54 w55 =>
    some (x54, w55)) <|
  gd ((sh w9 a0).1 = 11) <|
  rr (gR w9 a0 1) fun x59 =>
  gd ((sh w9 x59).1 = 9) <|
  rr (gR w9 x59 2) fun x62 =>
  gd ((sh w9 x62).1 = 56) <|
  gd (¬ (a1 < 0 ∨ (sh w9 x62).2 ≤ a1.toNatClampNeg)) <|
  rr (gR w9 x62 a1.toNatClampNeg) fun x66 =>
  bd (a2 - 10) fun x68 =>
  gd ((sh w9 x66).1 = 50) <|
  gd (¬ (x68 < 0 ∨ (sh w9 x66).2 ≤ x68.toNatClampNeg)) <|
  bd (gI w9 x66 x68.toNatClampNeg) fun x71 =>
  some (x71, w9)
def f_X_of (N : Nat) (a0 : Nat) (a1 : Int32) (a2 : Int32) (w : gW) : Option (Int32 × gW) := f_X_of_b0 N a0 a1 a2 w
def f_X_exchange_b0 (N : Nat) (a0 : Nat) (a1 : Int32) (a2 : Int32) (w : gW) : Option (Int32 × gW) :=
  cd (a2 < 0) (
    some ((-2), w)) <|
  cd (a2 ≤ 99) (
    gd ((sh w a0).1 = 50) <|
    gd (¬ (a1 < 0 ∨ (sh w a0).2 ≤ a1.toNatClampNeg)) <|
    bd (gI w a0 a1.toNatClampNeg) fun x3 =>
    bd (sI w a0 a1.toNatClampNeg a2) fun w4 =>
    some (x3, w4)) <|
  some ((-2), w)
def f_X_exchange (N : Nat) (a0 : Nat) (a1 : Int32) (a2 : Int32) (w : gW) : Option (Int32 × gW) := f_X_exchange_b0 N a0 a1 a2 w
def f_X_purse_b0 (N : Nat) (a0 : Nat) (a1 : Int32) (a2 : Int32) (a3 : Int32) (w : gW) : Option (Int32 × gW) :=
  gd ((sh w a0).1 = 11) <|
  kl (f_X_payerAt N a0 a1 w) fun x1 w2 =>
  nr x1 (
    some ((-1), w2)) fun x5 =>
  kl (f_X_isSort N a2 w2) fun x7 w8 =>
  cd (x7 = 0) (
  some ((-1), w8)) <|
    gd ((sh w8 a0).1 = 11) <|
    rr (gR w8 a0 1) fun x11 =>
    gd ((sh w8 x11).1 = 9) <|
    rr (gR w8 x11 2) fun x14 =>
    gd ((sh w8 x14).1 = 56) <|
    gd (¬ (a1 < 0 ∨ (sh w8 x14).2 ≤ a1.toNatClampNeg)) <|
    rr (gR w8 x14 a1.toNatClampNeg) fun x18 =>
    kl (f_X_exchange N x18 a2 a3 w8) fun x20 w21 =>
    some (x20, w21)
def f_X_purse (N : Nat) (a0 : Nat) (a1 : Int32) (a2 : Int32) (a3 : Int32) (w : gW) : Option (Int32 × gW) := f_X_purse_b0 N a0 a1 a2 a3 w
def f_X_till_b0 (N : Nat) (a0 : Nat) (a1 : Int32) (a2 : Int32) (w : gW) : Option (Int32 × gW) :=
  kl (f_X_isSort N a1 w) fun x1 w2 =>
  cd (x1 = 0) (
  some ((-1), w2)) <|
    gd ((sh w2 a0).1 = 11) <|
    rr (gR w2 a0 1) fun x5 =>
    gd ((sh w2 x5).1 = 9) <|
    rr (gR w2 x5 5) fun x8 =>
    kl (f_X_exchange N x8 a1 a2 w2) fun x10 w11 =>
    some (x10, w11)
def f_X_till (N : Nat) (a0 : Nat) (a1 : Int32) (a2 : Int32) (w : gW) : Option (Int32 × gW) := f_X_till_b0 N a0 a1 a2 w
def f_X_row_b0 (N : Nat) (a0 : Nat) (a1 : Int32) (a2 : Int32) (a3 : Int32) (w : gW) : Option (Int32 × gW) :=
  gd ((sh w a0).1 = 11) <|
  kl (f_X_payerAt N a0 a1 w) fun x1 w2 =>
  nr x1 (
    some ((-1), w2)) fun x5 =>
  cd (a2 < 0) (
    some ((-1), w2)) <|
  cd (a2 < 4) (
    kl (f_X_isSort N a3 w2) fun x7 w8 =>
    cd (x7 = 0) (
    some ((-2), w8)) <|
      gd ((sh w8 x5).1 < 7) <|
      bd (gI w8 x5 0) fun x11 =>
      cd (x11 = 6) (
        gd ((sh w8 a0).1 = 11) <|
        rr (gR w8 a0 1) fun x13 =>
        gd ((sh w8 x13).1 = 9) <|
        rr (gR w8 x13 3) fun x16 =>
        gd ((sh w8 x16).1 = 56) <|
        gd (¬ (a1 < 0 ∨ (sh w8 x16).2 ≤ a1.toNatClampNeg)) <|
        rr (gR w8 x16 a1.toNatClampNeg) fun x20 =>
        gd ((sh w8 x20).1 = 50) <|
        gd (¬ (a2 < 0 ∨ (sh w8 x20).2 ≤ a2.toNatClampNeg)) <|
        bd (gI w8 x20 a2.toNatClampNeg) fun x24 =>
        bd (sI w8 x20 a2.toNatClampNeg a3) fun w25 =>
        some (x24, w25)) <|
      some ((-3), w8)) <|
  some ((-1), w2)
def f_X_row (N : Nat) (a0 : Nat) (a1 : Int32) (a2 : Int32) (a3 : Int32) (w : gW) : Option (Int32 × gW) := f_X_row_b0 N a0 a1 a2 a3 w
def f_X_feed_b0 (N : Nat) (a0 : Nat) (a1 : Int32) (w : gW) : Option (Int32 × gW) :=
  cd (a1 < 0) (
    some ((-2), w)) <|
  cd (a1 ≤ 127) (
    gd ((sh w a0).1 = 11) <|
    bd (gI w a0 9) fun x2 =>
    cd (x2 < 100) (
      rr (gR w a0 8) fun x3 =>
      bd (gI w a0 9) fun x5 =>
      bd (a1.toInt8.toInt32) fun x6 =>
      gd ((sh w x3).1 = 51) <|
      gd (¬ (x5 < 0 ∨ (sh w x3).2 ≤ x5.toNatClampNeg)) <|
      bd (sI w x3 x5.toNatClampNeg (vp_nar .byte x6)) fun w9 =>
      gd ((sh w9 a0).1 = 11) <|
      bd (gI w9 a0 9) fun x11 =>
      bd (x11 + 1) fun x12 =>
      bd (sI w9 a0 9 x12) fun w13 =>
      gd ((sh w13 a0).1 = 11) <|
      bd (gI w13 a0 9) fun x15 =>
      some (x15, w13)) <|
    some ((-4), w)) <|
  some ((-2), w)
def f_X_feed (N : Nat) (a0 : Nat) (a1 : Int32) (w : gW) : Option (Int32 × gW) := f_X_feed_b0 N a0 a1 w
def f_X_town_b0 (N : Nat) (a0 : Nat) (w : gW) : Option (Int32 × gW) :=
  gd ((sh w a0).1 = 11) <|
  bd (gI w a0 7) fun x2 =>
  cd (x2 < 6) (
    rr (gR w a0 6) fun x3 =>
    bd (gI w a0 7) fun x5 =>
    gd ((sh w x3).1 = 55) <|
    gd (¬ (x5 < 0 ∨ (sh w x3).2 ≤ x5.toNatClampNeg)) <|
    rr (gR w x3 x5.toNatClampNeg) fun x8 =>
    rr (gR w a0 8) fun x10 =>
    bd (gI w a0 9) fun x12 =>
    gd ((sh w x8).1 = 7) <|
    kl (f_Tn_faultOf N x8 x10 x12 w) fun x13 w14 =>
    gd ((sh w14 a0).1 = 11) <|
    bd (sI w14 a0 9 0) fun w18 =>
    cd (x13 = (-1)) (
      gd ((sh w18 a0).1 = 11) <|
      rr (gR w18 a0 1) fun x20 =>
      gd ((sh w18 x20).1 = 9) <|
      bd (sR w18 x20 14 (some x8)) fun w23 =>
      gd ((sh w23 a0).1 = 11) <|
      bd (gI w23 a0 7) fun x25 =>
      bd (x25 + 1) fun x26 =>
      bd (sI w23 a0 7 x26) fun w27 =>
      gd ((sh w27 a0).1 = 11) <|
      bd (gI w27 a0 7) fun x29 =>
      bd (x29 - 1) fun x30 =>
      some (x30, w27)) <|
    bd ((-10) - x13) fun x31 =>
    some (x31, w18)) <|
  some ((-4), w)
def f_X_town (N : Nat) (a0 : Nat) (w : gW) : Option (Int32 × gW) := f_X_town_b0 N a0 w
def f_X_told_b0 (N : Nat) (a0 : Nat) (a1 : Int32) (w : gW) : Option (Int32 × gW) :=
  cd (a1 = 0) (
  gd ((sh w a0).1 = 11) <|
  rr (gR w a0 1) fun x33 =>
  gd ((sh w x33).1 = 9) <|
  rr (gR w x33 14) fun x36 =>
  gd ((sh w x36).1 = 7) <|
  bd (gI w x36 1) fun x39 =>
  some (x39, w)) <|
    bd (a1 - 10) fun x1 =>
    kl (f_X_isSort N x1 w) fun x2 w3 =>
    cd (x2 = 0) (
      bd (a1 - 20) fun x5 =>
      kl (f_X_isSort N x5 w3) fun x6 w7 =>
      cd (x6 = 0) (
        some ((-1), w7)) <|
      gd ((sh w7 a0).1 = 11) <|
      rr (gR w7 a0 1) fun x10 =>
      gd ((sh w7 x10).1 = 9) <|
      rr (gR w7 x10 14) fun x13 =>
      gd ((sh w7 x13).1 = 7) <|
      rr (gR w7 x13 0) fun x16 =>
      bd (a1 - 20) fun x18 =>
      gd ((sh w7 x16).1 = 50) <|
      gd (¬ (x18 < 0 ∨ (sh w7 x16).2 ≤ x18.toNatClampNeg)) <|
      bd (gI w7 x16 x18.toNatClampNeg) fun x21 =>
      some (x21, w7)) <|
    gd ((sh w3 a0).1 = 11) <|
    rr (gR w3 a0 1) fun x23 =>
    gd ((sh w3 x23).1 = 9) <|
    rr (gR w3 x23 5) fun x26 =>
    bd (a1 - 10) fun x28 =>
    gd ((sh w3 x26).1 = 50) <|
    gd (¬ (x28 < 0 ∨ (sh w3 x26).2 ≤ x28.toNatClampNeg)) <|
    bd (gI w3 x26 x28.toNatClampNeg) fun x31 =>
    some (x31, w3)
def f_X_told (N : Nat) (a0 : Nat) (a1 : Int32) (w : gW) : Option (Int32 × gW) := f_X_told_b0 N a0 a1 w
def f_X_isPrice_b0 (N : Nat) (a0 : Int32) (w : gW) : Option (Int32 × gW) :=
  cd (a0 < 1) (
    some (0, w)) <|
  cd ((199 : Int32) < a0) (
    some (0, w)) <|
  some (1, w)
def f_X_isPrice (N : Nat) (a0 : Int32) (w : gW) : Option (Int32 × gW) := f_X_isPrice_b0 N a0 w
def f_X_pay_b0 (N : Nat) (a0 : Nat) (a1 : Int32) (a2 : Int32) (w : gW) : Option (Int32 × gW) :=
  gd ((sh w a0).1 = 11) <|
  kl (f_X_payerAt N a0 a1 w) fun x1 w2 =>
  nr x1 (
    some ((-1), w2)) fun x5 =>
  kl (f_X_isPrice N a2 w2) fun x7 w8 =>
  cd (x7 = 0) (
  some ((-2), w8)) <|
    gd ((sh w8 a0).1 = 11) <|
    rr (gR w8 a0 5) fun x11 =>
    rr (gR w8 a0 1) fun x13 =>
    gd ((sh w8 x11).1 = 10) <|
    kl (f_Pm_choose N x11 x13 x5 a2 w8) fun x15 w16 =>
    cd (x15 = 0) (
    some ((-3), w16)) <|
      gd ((sh w16 a0).1 = 11) <|
      rr (gR w16 a0 5) fun x20 =>
      gd ((sh w16 x20).1 = 10) <|
      kl (f_Pm_settle N x20 w16) fun x22 w23 =>
      gd ((sh w23 a0).1 = 11) <|
      rr (gR w23 a0 5) fun x27 =>
      gd ((sh w23 x27).1 = 10) <|
      bd (gI w23 x27 9) fun x30 =>
      some (x30, w23)
def f_X_pay (N : Nat) (a0 : Nat) (a1 : Int32) (a2 : Int32) (w : gW) : Option (Int32 × gW) := f_X_pay_b0 N a0 a1 a2 w
def f_X_would_b41n4 (N : Nat) (a0 : Nat) (a2 : Int32) (a3 : Int32) (z0 : Int32) (w : gW) : Option (Int32 × gW) :=
  some ((-1), w)
def f_X_would_b36n4 (N : Nat) (a0 : Nat) (a2 : Int32) (a3 : Int32) (w : gW) : Option (Int32 × gW) :=
  f_X_would_b41n4 N a0 a2 a3 1 w
def f_X_would_b16n4 (N : Nat) (a0 : Nat) (a2 : Int32) (a3 : Int32) (w : gW) : Option (Int32 × gW) :=
  bd (a3 - 10) fun x7 =>
  kl (f_X_isSort N x7 w) fun x8 w9 =>
  cd (x8 = 0) (
  bd (a3 - 20) fun x11 =>
  kl (f_X_isSort N x11 w9) fun x12 w13 =>
  cd (x12 = 0) (
    f_X_would_b41n4 N a0 a2 a3 0 w13) <|
  f_X_would_b36n4 N a0 a2 a3 w13) <|
    f_X_would_b36n4 N a0 a2 a3 w9
def f_X_would_b41 (N : Nat) (a0 : Nat) (a2 : Int32) (a3 : Int32) (a4 : Nat) (z0 : Int32) (w : gW) : Option (Int32 × gW) :=
  cd (z0 = 0) (
  some ((-1), w)) <|
    kl (f_X_isPrice N a2 w) fun x19 w20 =>
    cd (x19 = 0) (
    some ((-2), w20)) <|
      gd ((sh w20 a0).1 = 11) <|
      rr (gR w20 a0 5) fun x23 =>
      rr (gR w20 a0 1) fun x25 =>
      gd ((sh w20 x23).1 = 10) <|
      kl (f_Pm_choose N x23 x25 a4 a2 w20) fun x27 w28 =>
      cd (x27 = 0) (
      some ((-5), w28)) <|
        bd (a3 - 10) fun x31 =>
        kl (f_X_isSort N x31 w28) fun x32 w33 =>
        cd (x32 = 0) (
          bd (a3 - 20) fun x35 =>
          kl (f_X_isSort N x35 w33) fun x36 w37 =>
          cd (x36 = 0) (
            cd (a3 = 0) (
            gd ((sh w37 a0).1 = 11) <|
            rr (gR w37 a0 5) fun x54 =>
            gd ((sh w37 x54).1 = 10) <|
            bd (gI w37 x54 8) fun x57 =>
            some (x57, w37)) <|
              cd (a3 = 1) (
              gd ((sh w37 a0).1 = 11) <|
              rr (gR w37 a0 5) fun x47 =>
              gd ((sh w37 x47).1 = 10) <|
              kl (f_Pm_coinsBehind N x47 w37) fun x49 w50 =>
              some (x49, w50)) <|
                gd ((sh w37 a0).1 = 11) <|
                rr (gR w37 a0 5) fun x40 =>
                gd ((sh w37 x40).1 = 10) <|
                kl (f_Pm_weightBehind N x40 w37) fun x42 w43 =>
                some (x42, w43)) <|
          gd ((sh w37 a0).1 = 11) <|
          rr (gR w37 a0 5) fun x59 =>
          gd ((sh w37 x59).1 = 10) <|
          rr (gR w37 x59 2) fun x62 =>
          bd (a3 - 20) fun x64 =>
          gd ((sh w37 x62).1 = 50) <|
          gd (¬ (x64 < 0 ∨ (sh w37 x62).2 ≤ x64.toNatClampNeg)) <|
          bd (gI w37 x62 x64.toNatClampNeg) fun x67 =>
          some (x67, w37)) <|
        gd ((sh w33 a0).1 = 11) <|
        rr (gR w33 a0 5) fun x69 =>
        gd ((sh w33 x69).1 = 10) <|
        rr (gR w33 x69 1) fun x72 =>
        bd (a3 - 10) fun x74 =>
        gd ((sh w33 x72).1 = 50) <|
        gd (¬ (x74 < 0 ∨ (sh w33 x72).2 ≤ x74.toNatClampNeg)) <|
        bd (gI w33 x72 x74.toNatClampNeg) fun x77 =>
        some (x77, w33)
def f_X_would_b36 (N : Nat) (a0 : Nat) (a2 : Int32) (a3 : Int32) (a4 : Nat) (w : gW) : Option (Int32 × gW) :=
  f_X_would_b41 N a0 a2 a3 a4 1 w
def f_X_would_b16 (N : Nat) (a0 : Nat) (a2 : Int32) (a3 : Int32) (a4 : Nat) (w : gW) : Option (Int32 × gW) :=
  bd (a3 - 10) fun x15 =>
  kl (f_X_isSort N x15 w) fun x16 w17 =>
  cd (x16 = 0) (
  bd (a3 - 20) fun x78 =>
  kl (f_X_isSort N x78 w17) fun x79 w80 =>
  cd (x79 = 0) (
    f_X_would_b41 N a0 a2 a3 a4 0 w80) <|
  f_X_would_b36 N a0 a2 a3 a4 w80) <|
    f_X_would_b36 N a0 a2 a3 a4 w17
def f_X_would_b0 (N : Nat) (a0 : Nat) (a1 : Int32) (a2 : Int32) (a3 : Int32) (w : gW) : Option (Int32 × gW) :=
  gd ((sh w a0).1 = 11) <|
  kl (f_X_payerAt N a0 a1 w) fun x1 w2 =>
  nr x1 (
    cd (a3 < 0) (
      f_X_would_b16n4 N a0 a2 a3 w2) <|
    cd (a3 ≤ 2) (
      f_X_would_b36n4 N a0 a2 a3 w2) <|
    f_X_would_b16n4 N a0 a2 a3 w2) fun x5 =>
  cd (a3 < 0) (
    f_X_would_b16 N a0 a2 a3 x5 w2) <|
  cd (a3 ≤ 2) (
    f_X_would_b36 N a0 a2 a3 x5 w2) <|
  f_X_would_b16 N a0 a2 a3 x5 w2
def f_X_would (N : Nat) (a0 : Nat) (a1 : Int32) (a2 : Int32) (a3 : Int32) (w : gW) : Option (Int32 × gW) := f_X_would_b0 N a0 a1 a2 a3 w
def f_X_least_b53 (N : Nat) (z0 : Int32) (z1 : Int32) (z2 : Nat) (z3 : Nat) (z4 : Nat) (w : gW) : Option (Int32 × gW) :=
  gd ((sh w z4).1 = 10) <|
  kl (f_Pm_leastBehind N z4 z3 z2 z1 z0 w) fun x15 w16 =>
  some (x15, w16)
def f_X_least_b0 (N : Nat) (a0 : Nat) (a1 : Int32) (a2 : Int32) (a3 : Int32) (w : gW) : Option (Int32 × gW) :=
  gd ((sh w a0).1 = 11) <|
  kl (f_X_payerAt N a0 a1 w) fun x1 w2 =>
  nr x1 (
    some ((-1), w2)) fun x5 =>
  cd (a3 < 0) (
    some ((-1), w2)) <|
  cd (a3 ≤ 1) (
    kl (f_X_isPrice N a2 w2) fun x7 w8 =>
    cd (x7 = 0) (
    some ((-2), w8)) <|
      gd ((sh w8 a0).1 = 11) <|
      rr (gR w8 a0 5) fun x11 =>
      rr (gR w8 a0 1) fun x13 =>
      cd (a3 = 0) (
      f_X_least_b53 N 1 a2 x5 x13 x11 w8) <|
        f_X_least_b53 N 0 a2 x5 x13 x11 w8) <|
  some ((-1), w2)
def f_X_least (N : Nat) (a0 : Nat) (a1 : Int32) (a2 : Int32) (a3 : Int32) (w : gW) : Option (Int32 × gW) := f_X_least_b0 N a0 a1 a2 a3 w
def f_X_exactly_b0 (N : Nat) (a0 : Nat) (a1 : Int32) (w : gW) : Option (Int32 × gW) :=
  gd ((sh w a0).1 = 11) <|
  kl (f_X_payerAt N a0 a1 w) fun x1 w2 =>
  nr x1 (
    some ((-1), w2)) fun x5 =>
  gd ((sh w2 a0).1 = 11) <|
  rr (gR w2 a0 5) fun x8 =>
  rr (gR w2 a0 1) fun x10 =>
  gd ((sh w2 x8).1 = 10) <|
  kl (f_Pm_exactPrices N x8 x10 x5 w2) fun x12 w13 =>
  some (x12, w13)
def f_X_exactly (N : Nat) (a0 : Nat) (a1 : Int32) (w : gW) : Option (Int32 × gW) := f_X_exactly_b0 N a0 a1 w
def f_X_price_b0 (N : Nat) (a0 : Nat) (a1 : Int32) (w : gW) : Option (Int32 × gW) :=
  cd (a1 = (-1)) (
  gd ((sh w a0).1 = 11) <|
  rr (gR w a0 1) fun x28 =>
  gd ((sh w x28).1 = 9) <|
  bd (sI w x28 7 0) fun w31 =>
  some (0, w31)) <|
    kl (f_X_isPrice N a1 w) fun x1 w2 =>
    cd (x1 = 0) (
    some ((-2), w2)) <|
      gd ((sh w2 a0).1 = 11) <|
      rr (gR w2 a0 1) fun x5 =>
      gd ((sh w2 x5).1 = 9) <|
      bd (gI w2 x5 7) fun x8 =>
      cd (x8 < 4) (
        rr (gR w2 x5 6) fun x9 =>
        bd (gI w2 x5 7) fun x11 =>
        gd ((sh w2 x9).1 = 50) <|
        gd (¬ (x11 < 0 ∨ (sh w2 x9).2 ≤ x11.toNatClampNeg)) <|
        bd (sI w2 x9 x11.toNatClampNeg a1) fun w14 =>
        gd ((sh w14 a0).1 = 11) <|
        rr (gR w14 a0 1) fun x16 =>
        gd ((sh w14 x16).1 = 9) <|
        bd (gI w14 x16 7) fun x19 =>
        bd (x19 + 1) fun x20 =>
        bd (sI w14 x16 7 x20) fun w21 =>
        gd ((sh w21 a0).1 = 11) <|
        rr (gR w21 a0 1) fun x23 =>
        gd ((sh w21 x23).1 = 9) <|
        bd (gI w21 x23 7) fun x26 =>
        some (x26, w21)) <|
      some ((-4), w2)
def f_X_price (N : Nat) (a0 : Nat) (a1 : Int32) (w : gW) : Option (Int32 × gW) := f_X_price_b0 N a0 a1 w
def f_X_payRowOnTrial_b15 (N : Nat) (rec15 : Nat × Nat × Int32 × Int32 × gW → Option (Int32 × gW)) (a0 : Nat) (a1 : Nat) (a2 : Int32) (a3 : Int32) (w : gW) : Option (Int32 × gW) :=
  gd ((sh w a0).1 = 11) <|
  rr (gR w a0 3) fun x11 =>
  gd ((sh w x11).1 = 9) <|
  bd (gI w x11 7) fun x14 =>
  cd (x14 ≤ a3) (
    some (a2, w)) <|
  rr (gR w a0 5) fun x15 =>
  rr (gR w x11 6) fun x17 =>
  gd ((sh w x17).1 = 50) <|
  gd (¬ (a3 < 0 ∨ (sh w x17).2 ≤ a3.toNatClampNeg)) <|
  bd (gI w x17 a3.toNatClampNeg) fun x21 =>
  gd ((sh w x15).1 = 10) <|
  kl (f_Pm_choose N x15 x11 a1 x21 w) fun x22 w23 =>
  cd (x22 = 0) (
    bd (a3 + 1) fun x26 =>
    rec15 (a0, a1, a2, x26, w23)) <|
  gd ((sh w23 a0).1 = 11) <|
  rr (gR w23 a0 5) fun x28 =>
  gd ((sh w23 x28).1 = 10) <|
  kl (f_Pm_settle N x28 w23) fun x30 w31 =>
  bd (a2 + 1) fun x34 =>
  bd (a3 + 1) fun x35 =>
  rec15 (a0, a1, x34, x35, w31)
def f_X_payRowOnTrial_l15 (N : Nat) (a0 : Nat) (a1 : Nat) (a2 : Int32) (a3 : Int32) (w : gW) : Option (Int32 × gW) :=
  itr (fun rec (q : Nat × Nat × Int32 × Int32 × gW) => f_X_payRowOnTrial_b15 N rec q.1 q.2.1 q.2.2.1 q.2.2.2.1 q.2.2.2.2) N (a0, a1, a2, a3, w)
def f_X_payRowOnTrial_b0 (N : Nat) (a0 : Nat) (a1 : Nat) (w : gW) : Option (Int32 × gW) :=
  gd ((sh w a0).1 = 11) <|
  rr (gR w a0 3) fun x2 =>
  rr (gR w a0 1) fun x4 =>
  gd ((sh w x2).1 = 9) <|
  kl (f_Wo_become N x2 x4 w) fun x6 w7 =>
  f_X_payRowOnTrial_l15 N a0 a1 0 0 w7
def f_X_payRowOnTrial (N : Nat) (a0 : Nat) (a1 : Nat) (w : gW) : Option (Int32 × gW) := f_X_payRowOnTrial_b0 N a0 a1 w
def f_X_behind_b0 (N : Nat) (a0 : Nat) (a1 : Int32) (a2 : Int32) (w : gW) : Option (Int32 × gW) :=
  gd ((sh w a0).1 = 11) <|
  kl (f_X_payerAt N a0 a1 w) fun x1 w2 =>
  nr x1 (
    some ((-1), w2)) fun x5 =>
  cd (a2 < 0) (
    some ((-1), w2)) <|
  cd (a2 ≤ 2) (
    gd ((sh w2 a0).1 = 11) <|
    kl (f_X_payRowOnTrial N a0 x5 w2) fun x7 w8 =>
    cd (a2 = 2) (
    some (x7, w8)) <|
      cd (a2 = 0) (
      gd ((sh w8 a0).1 = 11) <|
      rr (gR w8 a0 3) fun x19 =>
      gd ((sh w8 x19).1 = 9) <|
      kl (f_Wo_weight N x19 a1 w8) fun x21 w22 =>
      some (x21, w22)) <|
        gd ((sh w8 a0).1 = 11) <|
        rr (gR w8 a0 3) fun x12 =>
        gd ((sh w8 x12).1 = 9) <|
        kl (f_Wo_coins N x12 a1 w8) fun x14 w15 =>
        some (x14, w15)) <|
  some ((-1), w2)
def f_X_behind (N : Nat) (a0 : Nat) (a1 : Int32) (a2 : Int32) (w : gW) : Option (Int32 × gW) := f_X_behind_b0 N a0 a1 a2 w
def f_X_who_b8 (N : Nat) (rec8 : Nat × Int32 × Int32 × Int32 × gW → Option (Int32 × gW)) (a0 : Nat) (a1 : Int32) (a2 : Int32) (a3 : Int32) (w : gW) : Option (Int32 × gW) :=
  gd ((sh w a0).1 = 11) <|
  rr (gR w a0 1) fun x2 =>
  gd ((sh w x2).1 = 9) <|
  bd (gI w x2 1) fun x5 =>
  cd (x5 ≤ a3) (
    some (a1, w)) <|
  rr (gR w x2 0) fun x6 =>
  gd ((sh w x6).1 = 54) <|
  gd (¬ (a3 < 0 ∨ (sh w x6).2 ≤ a3.toNatClampNeg)) <|
  rr (gR w x6 a3.toNatClampNeg) fun x10 =>
  kl (f_X_payRowOnTrial N a0 x10 w) fun x12 w13 =>
  gd ((sh w13 a0).1 = 11) <|
  rr (gR w13 a0 1) fun x16 =>
  gd ((sh w13 x16).1 = 9) <|
  bd (gI w13 x16 7) fun x19 =>
  cd (x12 = x19) (
  rr (gR w13 a0 3) fun x21 =>
  gd ((sh w13 x21).1 = 9) <|
  kl (f_Wo_coins N x21 a3 w13) fun x23 w24 =>
  cd (a2 ≤ x23) (
    bd (a3 + 1) fun x27 =>
    rec8 (a0, a1, a2, x27, w24)) <|
  gd ((sh w24 a0).1 = 11) <|
  rr (gR w24 a0 3) fun x29 =>
  gd ((sh w24 x29).1 = 9) <|
  kl (f_Wo_coins N x29 a3 w24) fun x31 w32 =>
  bd (a3 + 1) fun x35 =>
  rec8 (a0, a3, x31, x35, w32)) <|
    bd (a3 + 1) fun x20 =>
    rec8 (a0, a1, a2, x20, w13)
def f_X_who_l8 (N : Nat) (a0 : Nat) (a1 : Int32) (a2 : Int32) (a3 : Int32) (w : gW) : Option (Int32 × gW) :=
  itr (fun rec (q : Nat × Int32 × Int32 × Int32 × gW) => f_X_who_b8 N rec q.1 q.2.1 q.2.2.1 q.2.2.2.1 q.2.2.2.2) N (a0, a1, a2, a3, w)
def f_X_who_b0 (N : Nat) (a0 : Nat) (w : gW) : Option (Int32 × gW) :=
  f_X_who_l8 N a0 (-5) 1000000000 0 w
def f_X_who (N : Nat) (a0 : Nat) (w : gW) : Option (Int32 × gW) := f_X_who_b0 N a0 w
def f_X_next_b22 (N : Nat) (rec22 : Nat × Nat × Int32 × Int32 × Int32 × gW → Option (Int32 × gW)) (a0 : Nat) (a2 : Nat) (a3 : Int32) (a4 : Int32) (a5 : Int32) (w : gW) : Option (Int32 × gW) :=
  cd ((30 : Int32) < a5) (
    some (a3, w)) <|
  gd ((sh w a0).1 = 11) <|
  rr (gR w a0 5) fun x8 =>
  rr (gR w a0 1) fun x10 =>
  gd ((sh w x8).1 = 10) <|
  kl (f_Pm_choose N x8 x10 a2 a5 w) fun x12 w13 =>
  cd (x12 = 0) (
    bd (a5 + 1) fun x16 =>
    rec22 (a0, a2, a3, a4, x16, w13)) <|
  gd ((sh w13 a0).1 = 11) <|
  rr (gR w13 a0 5) fun x18 =>
  gd ((sh w13 x18).1 = 10) <|
  kl (f_Pm_coinsBehind N x18 w13) fun x20 w21 =>
  cd (a4 ≤ x20) (
    bd (a5 + 1) fun x24 =>
    rec22 (a0, a2, a3, a4, x24, w21)) <|
  gd ((sh w21 a0).1 = 11) <|
  rr (gR w21 a0 5) fun x26 =>
  gd ((sh w21 x26).1 = 10) <|
  kl (f_Pm_coinsBehind N x26 w21) fun x28 w29 =>
  bd (a5 + 1) fun x32 =>
  rec22 (a0, a2, a5, x28, x32, w29)
def f_X_next_l22 (N : Nat) (a0 : Nat) (a2 : Nat) (a3 : Int32) (a4 : Int32) (a5 : Int32) (w : gW) : Option (Int32 × gW) :=
  itr (fun rec (q : Nat × Nat × Int32 × Int32 × Int32 × gW) => f_X_next_b22 N rec q.1 q.2.1 q.2.2.1 q.2.2.2.1 q.2.2.2.2.1 q.2.2.2.2.2) N (a0, a2, a3, a4, a5, w)
def f_X_next_b0 (N : Nat) (a0 : Nat) (a1 : Int32) (w : gW) : Option (Int32 × gW) :=
  gd ((sh w a0).1 = 11) <|
  kl (f_X_payerAt N a0 a1 w) fun x1 w2 =>
  nr x1 (
    some ((-1), w2)) fun x5 =>
  f_X_next_l22 N a0 x5 (-5) 1000000000 1 w2
def f_X_next (N : Nat) (a0 : Nat) (a1 : Int32) (w : gW) : Option (Int32 × gW) := f_X_next_b0 N a0 a1 w
def f_X_shortOf_b24 (N : Nat) (rec24 : Nat × Nat × Int32 × Int32 × gW → Option (Int32 × gW)) (a0 : Nat) (a2 : Nat) (a3 : Int32) (a4 : Int32) (w : gW) : Option (Int32 × gW) :=
  cd ((60 : Int32) < a4) (
    some ((-5), w)) <|
  cd (a3 < a4) (
    some ((-5), w)) <|
  gd ((sh w a0).1 = 11) <|
  rr (gR w a0 5) fun x15 =>
  rr (gR w a0 1) fun x17 =>
  gd ((sh w x15).1 = 10) <|
  kl (f_Pm_canPay N x15 x17 a2 a4 w) fun x19 w20 =>
  cd (x19 = 0) (
  some (a4, w20)) <|
    bd (a4 + 1) fun x23 =>
    rec24 (a0, a2, a3, x23, w20)
def f_X_shortOf_l24 (N : Nat) (a0 : Nat) (a2 : Nat) (a3 : Int32) (a4 : Int32) (w : gW) : Option (Int32 × gW) :=
  itr (fun rec (q : Nat × Nat × Int32 × Int32 × gW) => f_X_shortOf_b24 N rec q.1 q.2.1 q.2.2.1 q.2.2.2.1 q.2.2.2.2) N (a0, a2, a3, a4, w)
def f_X_shortOf_b0 (N : Nat) (a0 : Nat) (a1 : Int32) (w : gW) : Option (Int32 × gW) :=
  gd ((sh w a0).1 = 11) <|
  kl (f_X_payerAt N a0 a1 w) fun x1 w2 =>
  nr x1 (
    some ((-1), w2)) fun x5 =>
  gd ((sh w2 a0).1 = 11) <|
  rr (gR w2 a0 1) fun x8 =>
  gd ((sh w2 x8).1 = 9) <|
  kl (f_Wo_worth N x8 a1 w2) fun x10 w11 =>
  f_X_shortOf_l24 N a0 x5 x10 1 w11
def f_X_shortOf (N : Nat) (a0 : Nat) (a1 : Int32) (w : gW) : Option (Int32 × gW) := f_X_shortOf_b0 N a0 a1 w
def f_X_more_b0 (N : Nat) (a0 : Nat) (a1 : Int32) (a2 : Int32) (a3 : Int32) (w : gW) : Option (Int32 × gW) :=
  gd ((sh w a0).1 = 11) <|
  kl (f_X_payerAt N a0 a1 w) fun x1 w2 =>
  nr x1 (
    some ((-100001), w2)) fun x5 =>
  kl (f_X_isSort N a3 w2) fun x7 w8 =>
  cd (x7 = 0) (
  some ((-100001), w8)) <|
    kl (f_X_isPrice N a2 w8) fun x10 w11 =>
    cd (x10 = 0) (
    some ((-100002), w11)) <|
      gd ((sh w11 a0).1 = 11) <|
      rr (gR w11 a0 5) fun x14 =>
      rr (gR w11 a0 1) fun x16 =>
      gd ((sh w11 x14).1 = 10) <|
      kl (f_Pm_choose N x14 x16 x5 a2 w11) fun x18 w19 =>
      cd (x18 = 0) (
      some (0, w19)) <|
        gd ((sh w19 a0).1 = 11) <|
        rr (gR w19 a0 5) fun x23 =>
        gd ((sh w19 x23).1 = 10) <|
        kl (f_Pm_weightBehind N x23 w19) fun x25 w26 =>
        gd ((sh w26 a0).1 = 11) <|
        rr (gR w26 a0 3) fun x30 =>
        rr (gR w26 a0 1) fun x32 =>
        gd ((sh w26 x30).1 = 9) <|
        kl (f_Wo_become N x30 x32 w26) fun x34 w35 =>
        gd ((sh w35 a0).1 = 11) <|
        rr (gR w35 a0 3) fun x39 =>
        gd ((sh w35 x39).1 = 9) <|
        rr (gR w35 x39 5) fun x42 =>
        gd ((sh w35 x42).1 = 50) <|
        gd (¬ (a3 < 0 ∨ (sh w35 x42).2 ≤ a3.toNatClampNeg)) <|
        bd (gI w35 x42 a3.toNatClampNeg) fun x46 =>
        bd (x46 + 1) fun x47 =>
        bd (if x47 < (99 : Int32) then x47 else (99 : Int32)) fun x48 =>
        bd (sI w35 x42 a3.toNatClampNeg x48) fun w49 =>
        gd ((sh w49 a0).1 = 11) <|
        rr (gR w49 a0 5) fun x51 =>
        rr (gR w49 a0 3) fun x53 =>
        gd ((sh w49 x51).1 = 10) <|
        kl (f_Pm_choose N x51 x53 x5 a2 w49) fun x55 w56 =>
        cd (x55 = 0) (
        some (0, w56)) <|
          gd ((sh w56 a0).1 = 11) <|
          rr (gR w56 a0 5) fun x60 =>
          gd ((sh w56 x60).1 = 10) <|
          kl (f_Pm_weightBehind N x60 w56) fun x62 w63 =>
          bd (x62 - x25) fun x66 =>
          some (x66, w63)
def f_X_more (N : Nat) (a0 : Nat) (a1 : Int32) (a2 : Int32) (a3 : Int32) (w : gW) : Option (Int32 × gW) := f_X_more_b0 N a0 a1 a2 a3 w
def f_X_heaviest_b50 (N : Nat) (rec50 : Nat × Int32 × Int32 × Nat × Int32 × Int32 × gW → Option (Int32 × gW)) (a0 : Nat) (a1 : Int32) (a2 : Int32) (a3 : Nat) (a4 : Int32) (a5 : Int32) (w : gW) : Option (Int32 × gW) :=
  cd (a2 < a5) (
    some (a4, w)) <|
  gd ((sh w a0).1 = 11) <|
  rr (gR w a0 5) fun x24 =>
  rr (gR w a0 3) fun x26 =>
  bd (7 * a5) fun x28 =>
  gd ((sh w x24).1 = 10) <|
  kl (f_Pm_choose N x24 x26 a3 x28 w) fun x29 w30 =>
  cd (x29 = 0) (
    bd (a5 + 1) fun x33 =>
    rec50 (a0, a1, a2, a3, a4, x33, w30)) <|
  gd ((sh w30 a0).1 = 11) <|
  rr (gR w30 a0 5) fun x35 =>
  gd ((sh w30 x35).1 = 10) <|
  kl (f_Pm_settle N x35 w30) fun x37 w38 =>
  gd ((sh w38 a0).1 = 11) <|
  rr (gR w38 a0 3) fun x42 =>
  gd ((sh w38 x42).1 = 9) <|
  kl (f_Wo_weight N x42 a1 w38) fun x44 w45 =>
  bd (if a4 < x44 then x44 else a4) fun x48 =>
  bd (a5 + 1) fun x49 =>
  rec50 (a0, a1, a2, a3, x48, x49, w45)
def f_X_heaviest_l50 (N : Nat) (a0 : Nat) (a1 : Int32) (a2 : Int32) (a3 : Nat) (a4 : Int32) (a5 : Int32) (w : gW) : Option (Int32 × gW) :=
  itr (fun rec (q : Nat × Int32 × Int32 × Nat × Int32 × Int32 × gW) => f_X_heaviest_b50 N rec q.1 q.2.1 q.2.2.1 q.2.2.2.1 q.2.2.2.2.1 q.2.2.2.2.2.1 q.2.2.2.2.2.2) N (a0, a1, a2, a3, a4, a5, w)
def f_X_heaviest_b0 (N : Nat) (a0 : Nat) (a1 : Int32) (a2 : Int32) (w : gW) : Option (Int32 × gW) :=
  gd ((sh w a0).1 = 11) <|
  kl (f_X_payerAt N a0 a1 w) fun x1 w2 =>
  nr x1 (
    some ((-1), w2)) fun x5 =>
  cd (a2 < 1) (
    some ((-2), w2)) <|
  cd (a2 ≤ 8) (
    gd ((sh w2 a0).1 = 11) <|
    rr (gR w2 a0 3) fun x8 =>
    rr (gR w2 a0 1) fun x10 =>
    gd ((sh w2 x8).1 = 9) <|
    kl (f_Wo_become N x8 x10 w2) fun x12 w13 =>
    gd ((sh w13 a0).1 = 11) <|
    rr (gR w13 a0 3) fun x17 =>
    gd ((sh w13 x17).1 = 9) <|
    kl (f_Wo_weight N x17 a1 w13) fun x19 w20 =>
    f_X_heaviest_l50 N a0 a1 a2 x5 x19 1 w20) <|
  some ((-2), w2)
def f_X_heaviest (N : Nat) (a0 : Nat) (a1 : Int32) (a2 : Int32) (w : gW) : Option (Int32 × gW) := f_X_heaviest_b0 N a0 a1 a2 w
def f_X_see_b0 (N : Nat) (a0 : Nat) (a1 : Int32) (a2 : Int32) (w : gW) : Option (Int32 × gW) :=
  cd (a1 = (-1)) (
  gd ((sh w a0).1 = 11) <|
  rr (gR w a0 1) fun x38 =>
  gd ((sh w x38).1 = 9) <|
  bd (sI w x38 10 0) fun w41 =>
  some (0, w41)) <|
    kl (f_X_isPrice N a1 w) fun x1 w2 =>
    cd (x1 = 0) (
      some ((-2), w2)) <|
    cd (a2 < 0) (
      some ((-2), w2)) <|
    cd (a2 ≤ 99) (
      gd ((sh w2 a0).1 = 11) <|
      rr (gR w2 a0 1) fun x5 =>
      gd ((sh w2 x5).1 = 9) <|
      bd (gI w2 x5 10) fun x8 =>
      cd (x8 < 4) (
        rr (gR w2 x5 8) fun x9 =>
        bd (gI w2 x5 10) fun x11 =>
        gd ((sh w2 x9).1 = 50) <|
        gd (¬ (x11 < 0 ∨ (sh w2 x9).2 ≤ x11.toNatClampNeg)) <|
        bd (sI w2 x9 x11.toNatClampNeg a1) fun w14 =>
        gd ((sh w14 a0).1 = 11) <|
        rr (gR w14 a0 1) fun x16 =>
        gd ((sh w14 x16).1 = 9) <|
        rr (gR w14 x16 9) fun x19 =>
        bd (gI w14 x16 10) fun x21 =>
        gd ((sh w14 x19).1 = 50) <|
        gd (¬ (x21 < 0 ∨ (sh w14 x19).2 ≤ x21.toNatClampNeg)) <|
        bd (sI w14 x19 x21.toNatClampNeg a2) fun w24 =>
        gd ((sh w24 a0).1 = 11) <|
        rr (gR w24 a0 1) fun x26 =>
        gd ((sh w24 x26).1 = 9) <|
        bd (gI w24 x26 10) fun x29 =>
        bd (x29 + 1) fun x30 =>
        bd (sI w24 x26 10 x30) fun w31 =>
        gd ((sh w31 a0).1 = 11) <|
        rr (gR w31 a0 1) fun x33 =>
        gd ((sh w31 x33).1 = 9) <|
        bd (gI w31 x33 10) fun x36 =>
        some (x36, w31)) <|
      some ((-4), w2)) <|
    some ((-2), w2)
def f_X_see (N : Nat) (a0 : Nat) (a1 : Int32) (a2 : Int32) (w : gW) : Option (Int32 × gW) := f_X_see_b0 N a0 a1 a2 w
def f_X_fitsAllSeen_b2 (N : Nat) (rec2 : Nat × Nat × Int32 × gW → Option (Int32 × gW)) (a0 : Nat) (a1 : Nat) (a2 : Int32) (w : gW) : Option (Int32 × gW) :=
  gd ((sh w a0).1 = 11) <|
  rr (gR w a0 1) fun x2 =>
  gd ((sh w x2).1 = 9) <|
  bd (gI w x2 10) fun x5 =>
  cd (x5 ≤ a2) (
    some (1, w)) <|
  rr (gR w a0 5) fun x6 =>
  rr (gR w x2 8) fun x8 =>
  gd ((sh w x8).1 = 50) <|
  gd (¬ (a2 < 0 ∨ (sh w x8).2 ≤ a2.toNatClampNeg)) <|
  bd (gI w x8 a2.toNatClampNeg) fun x12 =>
  gd ((sh w x6).1 = 10) <|
  kl (f_Pm_choose N x6 x2 a1 x12 w) fun x13 w14 =>
  cd (x13 = 0) (
    some (0, w14)) <|
  gd ((sh w14 a0).1 = 11) <|
  rr (gR w14 a0 5) fun x18 =>
  gd ((sh w14 x18).1 = 10) <|
  kl (f_Pm_coinsBehind N x18 w14) fun x20 w21 =>
  gd ((sh w21 a0).1 = 11) <|
  rr (gR w21 a0 1) fun x25 =>
  gd ((sh w21 x25).1 = 9) <|
  rr (gR w21 x25 9) fun x28 =>
  gd ((sh w21 x28).1 = 50) <|
  gd (¬ (a2 < 0 ∨ (sh w21 x28).2 ≤ a2.toNatClampNeg)) <|
  bd (gI w21 x28 a2.toNatClampNeg) fun x32 =>
  cd (x20 = x32) (
    bd (a2 + 1) fun x33 =>
    rec2 (a0, a1, x33, w21)) <|
  some (0, w21)
def f_X_fitsAllSeen_l2 (N : Nat) (a0 : Nat) (a1 : Nat) (a2 : Int32) (w : gW) : Option (Int32 × gW) :=
  itr (fun rec (q : Nat × Nat × Int32 × gW) => f_X_fitsAllSeen_b2 N rec q.1 q.2.1 q.2.2.1 q.2.2.2) N (a0, a1, a2, w)
def f_X_fitsAllSeen_b0 (N : Nat) (a0 : Nat) (a1 : Nat) (w : gW) : Option (Int32 × gW) :=
  f_X_fitsAllSeen_l2 N a0 a1 0 w
def f_X_fitsAllSeen (N : Nat) (a0 : Nat) (a1 : Nat) (w : gW) : Option (Int32 × gW) := f_X_fitsAllSeen_b0 N a0 a1 w
def f_X_fits_b4 (N : Nat) (rec4 : Nat × Int32 × Int32 × gW → Option (Int32 × gW)) (a0 : Nat) (a1 : Int32) (a2 : Int32) (w : gW) : Option (Int32 × gW) :=
  gd ((sh w a0).1 = 11) <|
  rr (gR w a0 1) fun x2 =>
  gd ((sh w x2).1 = 9) <|
  bd (gI w x2 1) fun x5 =>
  cd (x5 ≤ a2) (
    some (a1, w)) <|
  rr (gR w x2 0) fun x6 =>
  gd ((sh w x6).1 = 54) <|
  gd (¬ (a2 < 0 ∨ (sh w x6).2 ≤ a2.toNatClampNeg)) <|
  rr (gR w x6 a2.toNatClampNeg) fun x10 =>
  kl (f_X_fitsAllSeen N a0 x10 w) fun x12 w13 =>
  cd (x12 = 0) (
    bd (a2 + 1) fun x15 =>
    rec4 (a0, a1, x15, w13)) <|
  bd (1 <<< (a2 &&& 31)) fun x16 =>
  bd (a1 ||| x16) fun x17 =>
  bd (a2 + 1) fun x18 =>
  rec4 (a0, x17, x18, w13)
def f_X_fits_l4 (N : Nat) (a0 : Nat) (a1 : Int32) (a2 : Int32) (w : gW) : Option (Int32 × gW) :=
  itr (fun rec (q : Nat × Int32 × Int32 × gW) => f_X_fits_b4 N rec q.1 q.2.1 q.2.2.1 q.2.2.2) N (a0, a1, a2, w)
def f_X_fits_b0 (N : Nat) (a0 : Nat) (w : gW) : Option (Int32 × gW) :=
  f_X_fits_l4 N a0 0 0 w
def f_X_fits (N : Nat) (a0 : Nat) (w : gW) : Option (Int32 × gW) := f_X_fits_b0 N a0 w
def f_X_commonDivisor_b7 (N : Nat) (rec7 : Int32 × Int32 × Int32 × gW → Option (Int32 × gW)) (a2 : Int32) (a3 : Int32) (a4 : Int32) (w : gW) : Option (Int32 × gW) :=
  cd ((100 : Int32) ≤ a4) (
    some (a2, w)) <|
  cd (a3 = 0) (
    some (a2, w)) <|
  gd (¬ a3 = 0) <|
  bd (a2 - a2 / a3 * a3) fun x2 =>
  bd (a4 + 1) fun x3 =>
  rec7 (a3, x2, x3, w)
def f_X_commonDivisor_l7 (N : Nat) (a2 : Int32) (a3 : Int32) (a4 : Int32) (w : gW) : Option (Int32 × gW) :=
  itr (fun rec (q : Int32 × Int32 × Int32 × gW) => f_X_commonDivisor_b7 N rec q.1 q.2.1 q.2.2.1 q.2.2.2) N (a2, a3, a4, w)
def f_X_commonDivisor_b0 (N : Nat) (a0 : Int32) (a1 : Int32) (w : gW) : Option (Int32 × gW) :=
  f_X_commonDivisor_l7 N a0 a1 0 w
def f_X_commonDivisor (N : Nat) (a0 : Int32) (a1 : Int32) (w : gW) : Option (Int32 × gW) := f_X_commonDivisor_b0 N a0 a1 w
def f_X_partOfFraction_b0 (N : Nat) (a0 : Int32) (a1 : Int32) (a2 : Int32) (w : gW) : Option (Int64 × gW) :=
  kl (f_X_commonDivisor N a0 a1 w) fun x1 w2 =>
  cd (x1 = 0) (
  some ((-9223372036854775808), w2)) <|
    cd (a2 = 0) (
    gd (¬ x1 = 0) <|
    bd (a0 / x1) fun x8 =>
    bd (x8.toInt64) fun x9 =>
    some (x9, w2)) <|
      gd (¬ x1 = 0) <|
      bd (a1 / x1) fun x5 =>
      bd (x5.toInt64) fun x6 =>
      some (x6, w2)
def f_X_partOfFraction (N : Nat) (a0 : Int32) (a1 : Int32) (a2 : Int32) (w : gW) : Option (Int64 × gW) := f_X_partOfFraction_b0 N a0 a1 a2 w
def f_X_odds_b29 (N : Nat) (rec29 : Nat × Int32 × Nat × Int32 × Int32 × gW → Option (Int64 × gW)) (a0 : Nat) (a2 : Int32) (a3 : Nat) (a4 : Int32) (a5 : Int32) (w : gW) : Option (Int64 × gW) :=
  cd ((20 : Int32) < a5) (
    kl (f_X_partOfFraction N a4 20 a2 w) fun x7 w8 =>
    some (x7, w8)) <|
  gd ((sh w a0).1 = 11) <|
  rr (gR w a0 5) fun x11 =>
  rr (gR w a0 1) fun x13 =>
  gd ((sh w x11).1 = 10) <|
  kl (f_Pm_canPay N x11 x13 a3 a5 w) fun x15 w16 =>
  cd (x15 = 0) (
    bd (a5 + 1) fun x19 =>
    rec29 (a0, a2, a3, a4, x19, w16)) <|
  bd (a4 + 1) fun x20 =>
  bd (a5 + 1) fun x21 =>
  rec29 (a0, a2, a3, x20, x21, w16)
def f_X_odds_l29 (N : Nat) (a0 : Nat) (a2 : Int32) (a3 : Nat) (a4 : Int32) (a5 : Int32) (w : gW) : Option (Int64 × gW) :=
  itr (fun rec (q : Nat × Int32 × Nat × Int32 × Int32 × gW) => f_X_odds_b29 N rec q.1 q.2.1 q.2.2.1 q.2.2.2.1 q.2.2.2.2.1 q.2.2.2.2.2) N (a0, a2, a3, a4, a5, w)
def f_X_odds_b0 (N : Nat) (a0 : Nat) (a1 : Int32) (a2 : Int32) (w : gW) : Option (Int64 × gW) :=
  gd ((sh w a0).1 = 11) <|
  kl (f_X_payerAt N a0 a1 w) fun x1 w2 =>
  nr x1 (
    some ((-9223372036854775808), w2)) fun x5 =>
  cd (a2 < 0) (
    some ((-9223372036854775808), w2)) <|
  cd (a2 ≤ 1) (
    f_X_odds_l29 N a0 a2 x5 0 1 w2) <|
  some ((-9223372036854775808), w2)
def f_X_odds (N : Nat) (a0 : Nat) (a1 : Int32) (a2 : Int32) (w : gW) : Option (Int64 × gW) := f_X_odds_b0 N a0 a1 a2 w
def f_X_mean_b28 (N : Nat) (rec28 : Nat × Int32 × Int32 × Int32 × Int32 × Int32 × gW → Option (Int64 × gW)) (a0 : Nat) (a1 : Int32) (a2 : Int32) (a3 : Int32) (a4 : Int32) (a5 : Int32) (w : gW) : Option (Int64 × gW) :=
  gd ((sh w a0).1 = 11) <|
  rr (gR w a0 1) fun x5 =>
  gd ((sh w x5).1 = 9) <|
  bd (gI w x5 1) fun x8 =>
  cd (x8 ≤ a5) (
    cd (a4 = 0) (
    some ((-9223372036854775808), w)) <|
      kl (f_X_partOfFraction N a3 a4 a2 w) fun x9 w10 =>
      some (x9, w10)) <|
  rr (gR w a0 5) fun x12 =>
  rr (gR w x5 0) fun x14 =>
  gd ((sh w x14).1 = 54) <|
  gd (¬ (a5 < 0 ∨ (sh w x14).2 ≤ a5.toNatClampNeg)) <|
  rr (gR w x14 a5.toNatClampNeg) fun x18 =>
  gd ((sh w x12).1 = 10) <|
  kl (f_Pm_choose N x12 x5 x18 a1 w) fun x20 w21 =>
  cd (x20 = 0) (
    bd (a5 + 1) fun x24 =>
    rec28 (a0, a1, a2, a3, a4, x24, w21)) <|
  gd ((sh w21 a0).1 = 11) <|
  rr (gR w21 a0 5) fun x26 =>
  gd ((sh w21 x26).1 = 10) <|
  bd (gI w21 x26 9) fun x29 =>
  bd (a3 + x29) fun x30 =>
  bd (a4 + 1) fun x31 =>
  bd (a5 + 1) fun x32 =>
  rec28 (a0, a1, a2, x30, x31, x32, w21)
def f_X_mean_l28 (N : Nat) (a0 : Nat) (a1 : Int32) (a2 : Int32) (a3 : Int32) (a4 : Int32) (a5 : Int32) (w : gW) : Option (Int64 × gW) :=
  itr (fun rec (q : Nat × Int32 × Int32 × Int32 × Int32 × Int32 × gW) => f_X_mean_b28 N rec q.1 q.2.1 q.2.2.1 q.2.2.2.1 q.2.2.2.2.1 q.2.2.2.2.2.1 q.2.2.2.2.2.2) N (a0, a1, a2, a3, a4, a5, w)
def f_X_mean_b0 (N : Nat) (a0 : Nat) (a1 : Int32) (a2 : Int32) (w : gW) : Option (Int64 × gW) :=
  kl (f_X_isPrice N a1 w) fun x1 w2 =>
  cd (x1 = 0) (
    some ((-9223372036854775808), w2)) <|
  cd (a2 < 0) (
    some ((-9223372036854775808), w2)) <|
  cd (a2 ≤ 1) (
    f_X_mean_l28 N a0 a1 a2 0 0 0 w2) <|
  some ((-9223372036854775808), w2)
def f_X_mean (N : Nat) (a0 : Nat) (a1 : Int32) (a2 : Int32) (w : gW) : Option (Int64 × gW) := f_X_mean_b0 N a0 a1 a2 w
def f_X_book_b0 (N : Nat) (a0 : Nat) (a1 : Int32) (a2 : Int32) (w : gW) : Option (Int32 × gW) :=
  cd (a1 = (-1)) (
  gd ((sh w a0).1 = 11) <|
  rr (gR w a0 1) fun x44 =>
  gd ((sh w x44).1 = 9) <|
  bd (sI w x44 13 0) fun w47 =>
  some (0, w47)) <|
    gd ((sh w a0).1 = 11) <|
    kl (f_X_payerAt N a0 a1 w) fun x1 w2 =>
    nr x1 (
      some ((-1), w2)) fun x5 =>
    kl (f_X_isPrice N a2 w2) fun x7 w8 =>
    cd (x7 = 0) (
    some ((-2), w8)) <|
      gd ((sh w8 a0).1 = 11) <|
      rr (gR w8 a0 1) fun x11 =>
      gd ((sh w8 x11).1 = 9) <|
      bd (gI w8 x11 13) fun x14 =>
      cd (x14 < 8) (
        rr (gR w8 x11 11) fun x15 =>
        bd (gI w8 x11 13) fun x17 =>
        gd ((sh w8 x15).1 = 50) <|
        gd (¬ (x17 < 0 ∨ (sh w8 x15).2 ≤ x17.toNatClampNeg)) <|
        bd (sI w8 x15 x17.toNatClampNeg a1) fun w20 =>
        gd ((sh w20 a0).1 = 11) <|
        rr (gR w20 a0 1) fun x22 =>
        gd ((sh w20 x22).1 = 9) <|
        rr (gR w20 x22 12) fun x25 =>
        bd (gI w20 x22 13) fun x27 =>
        gd ((sh w20 x25).1 = 50) <|
        gd (¬ (x27 < 0 ∨ (sh w20 x25).2 ≤ x27.toNatClampNeg)) <|
        bd (sI w20 x25 x27.toNatClampNeg a2) fun w30 =>
        gd ((sh w30 a0).1 = 11) <|
        rr (gR w30 a0 1) fun x32 =>
        gd ((sh w30 x32).1 = 9) <|
        bd (gI w30 x32 13) fun x35 =>
        bd (x35 + 1) fun x36 =>
        bd (sI w30 x32 13 x36) fun w37 =>
        gd ((sh w37 a0).1 = 11) <|
        rr (gR w37 a0 1) fun x39 =>
        gd ((sh w37 x39).1 = 9) <|
        bd (gI w37 x39 13) fun x42 =>
        some (x42, w37)) <|
      some ((-4), w8)
def f_X_book (N : Nat) (a0 : Nat) (a1 : Int32) (a2 : Int32) (w : gW) : Option (Int32 × gW) := f_X_book_b0 N a0 a1 a2 w
def f_X_looked_b13 (N : Nat) (rec13 : Nat × Int32 × gW → Option (Int32 × gW)) (a0 : Nat) (a1 : Int32) (w : gW) : Option (Int32 × gW) :=
  gd ((sh w a0).1 = 11) <|
  rr (gR w a0 3) fun x11 =>
  gd ((sh w x11).1 = 9) <|
  bd (gI w x11 13) fun x14 =>
  cd (x14 ≤ a1) (
    some ((-5), w)) <|
  rr (gR w x11 11) fun x15 =>
  gd ((sh w x15).1 = 50) <|
  gd (¬ (a1 < 0 ∨ (sh w x15).2 ≤ a1.toNatClampNeg)) <|
  bd (gI w x15 a1.toNatClampNeg) fun x19 =>
  kl (f_X_payerAt N a0 x19 w) fun x20 w21 =>
  nr x20 (
    some (a1, w21)) fun x23 =>
  gd ((sh w21 a0).1 = 11) <|
  rr (gR w21 a0 5) fun x26 =>
  rr (gR w21 a0 3) fun x28 =>
  gd ((sh w21 x28).1 = 9) <|
  rr (gR w21 x28 12) fun x31 =>
  gd ((sh w21 x31).1 = 50) <|
  gd (¬ (a1 < 0 ∨ (sh w21 x31).2 ≤ a1.toNatClampNeg)) <|
  bd (gI w21 x31 a1.toNatClampNeg) fun x35 =>
  gd ((sh w21 x26).1 = 10) <|
  kl (f_Pm_choose N x26 x28 x23 x35 w21) fun x36 w37 =>
  cd (x36 = 0) (
  some (a1, w37)) <|
    gd ((sh w37 a0).1 = 11) <|
    rr (gR w37 a0 5) fun x41 =>
    gd ((sh w37 x41).1 = 10) <|
    kl (f_Pm_settle N x41 w37) fun x43 w44 =>
    bd (a1 + 1) fun x47 =>
    rec13 (a0, x47, w44)
def f_X_looked_l13 (N : Nat) (a0 : Nat) (a1 : Int32) (w : gW) : Option (Int32 × gW) :=
  itr (fun rec (q : Nat × Int32 × gW) => f_X_looked_b13 N rec q.1 q.2.1 q.2.2) N (a0, a1, w)
def f_X_looked_b0 (N : Nat) (a0 : Nat) (w : gW) : Option (Int32 × gW) :=
  gd ((sh w a0).1 = 11) <|
  rr (gR w a0 3) fun x2 =>
  rr (gR w a0 1) fun x4 =>
  gd ((sh w x2).1 = 9) <|
  kl (f_Wo_become N x2 x4 w) fun x6 w7 =>
  f_X_looked_l13 N a0 0 w7
def f_X_looked (N : Nat) (a0 : Nat) (w : gW) : Option (Int32 × gW) := f_X_looked_b0 N a0 w
def f_X_isTape_b0 (N : Nat) (a0 : Int32) (w : gW) : Option (Int32 × gW) :=
  cd (a0 < 0) (
    some (0, w)) <|
  cd ((6 : Int32) ≤ a0) (
    some (0, w)) <|
  some (1, w)
def f_X_isTape (N : Nat) (a0 : Int32) (w : gW) : Option (Int32 × gW) := f_X_isTape_b0 N a0 w
def f_X_judge_b53 (N : Nat) (rec53 : Nat × Int32 × Int32 × Int32 × gW → Option (Int32 × gW)) (a0 : Nat) (a1 : Int32) (a2 : Int32) (a3 : Int32) (w : gW) : Option (Int32 × gW) :=
  cd ((6 : Int32) ≤ a3) (
    some ((-5), w)) <|
  bd (a2 + a3) fun x16 =>
  gd ((sh w a0).1 = 11) <|
  rr (gR w a0 12) fun x18 =>
  gd ((sh w x18).1 = 50) <|
  gd (¬ (a1 < 0 ∨ (sh w x18).2 ≤ a1.toNatClampNeg)) <|
  bd (gI w x18 a1.toNatClampNeg) fun x22 =>
  cd (x16 < x22) (
    rr (gR w a0 13) fun x23 =>
    gd ((sh w x23).1 = 57) <|
    gd (¬ (a1 < 0 ∨ (sh w x23).2 ≤ a1.toNatClampNeg)) <|
    rr (gR w x23 a1.toNatClampNeg) fun x27 =>
    bd (a2 + a3) fun x29 =>
    gd ((sh w x27).1 = 52) <|
    gd (¬ (x29 < 0 ∨ (sh w x27).2 ≤ x29.toNatClampNeg)) <|
    bd (gL w x27 x29.toNatClampNeg) fun x32 =>
    rr (gR w a0 1) fun x33 =>
    gd ((sh w x33).1 = 9) <|
    rr (gR w x33 5) fun x36 =>
    gd ((sh w x36).1 = 50) <|
    gd (¬ (a3 < 0 ∨ (sh w x36).2 ≤ a3.toNatClampNeg)) <|
    bd (gI w x36 a3.toNatClampNeg) fun x40 =>
    bd (x40.toInt64) fun x41 =>
    bd (lg_cmp x32 x41) fun x42 =>
    cd (x42 = 0) (
      bd (a3 + 1) fun x43 =>
      rec53 (a0, a1, a2, x43, w)) <|
    some (a3, w)) <|
  bd (100 + a3) fun x44 =>
  some (x44, w)
def f_X_judge_l53 (N : Nat) (a0 : Nat) (a1 : Int32) (a2 : Int32) (a3 : Int32) (w : gW) : Option (Int32 × gW) :=
  itr (fun rec (q : Nat × Int32 × Int32 × Int32 × gW) => f_X_judge_b53 N rec q.1 q.2.1 q.2.2.1 q.2.2.2.1 q.2.2.2.2) N (a0, a1, a2, a3, w)
def f_X_judge_b0 (N : Nat) (a0 : Nat) (a1 : Int32) (a2 : Int32) (w : gW) : Option (Int32 × gW) :=
  kl (f_X_isTape N a1 w) fun x1 w2 =>
  cd (x1 = 0) (
  some ((-1), w2)) <|
    gd ((sh w2 a0).1 = 11) <|
    rr (gR w2 a0 11) fun x5 =>
    gd ((sh w2 x5).1 = 50) <|
    gd (¬ (a1 < 0 ∨ (sh w2 x5).2 ≤ a1.toNatClampNeg)) <|
    bd (gI w2 x5 a1.toNatClampNeg) fun x9 =>
    cd (x9 = (-1)) (
    some (100, w2)) <|
      bd (gI w2 x5 a1.toNatClampNeg) fun x10 =>
      cd (x10 = 0) (
        cd (a2 < 0) (
          some (100, w2)) <|
        rr (gR w2 a0 12) fun x11 =>
        gd ((sh w2 x11).1 = 50) <|
        gd (¬ (a1 < 0 ∨ (sh w2 x11).2 ≤ a1.toNatClampNeg)) <|
        bd (gI w2 x11 a1.toNatClampNeg) fun x15 =>
        cd (a2 < x15) (
          f_X_judge_l53 N a0 a1 a2 0 w2) <|
        some (100, w2)) <|
      some ((-12), w2)
def f_X_judge (N : Nat) (a0 : Nat) (a1 : Int32) (a2 : Int32) (w : gW) : Option (Int32 × gW) := f_X_judge_b0 N a0 a1 a2 w
def f_X_image_b0 (N : Nat) (a0 : Nat) (w : gW) : Option (Int32 × gW) :=
  gd ((sh w a0).1 = 11) <|
  rr (gR w a0 2) fun x2 =>
  rr (gR w a0 1) fun x4 =>
  gd ((sh w x2).1 = 9) <|
  kl (f_Wo_become N x2 x4 w) fun x6 w7 =>
  gd ((sh w7 a0).1 = 11) <|
  bd (sI w7 a0 4 1) fun w11 =>
  gd ((sh w11 a0).1 = 11) <|
  rr (gR w11 a0 1) fun x13 =>
  gd ((sh w11 x13).1 = 9) <|
  bd (gI w11 x13 1) fun x16 =>
  some (x16, w11)
def f_X_image (N : Nat) (a0 : Nat) (w : gW) : Option (Int32 × gW) := f_X_image_b0 N a0 w
def f_X_undo_b0 (N : Nat) (a0 : Nat) (w : gW) : Option (Int32 × gW) :=
  gd ((sh w a0).1 = 11) <|
  bd (gI w a0 4) fun x2 =>
  cd (x2 = 0) (
  some ((-3), w)) <|
    rr (gR w a0 1) fun x3 =>
    rr (gR w a0 2) fun x5 =>
    gd ((sh w x3).1 = 9) <|
    kl (f_Wo_become N x3 x5 w) fun x7 w8 =>
    gd ((sh w8 a0).1 = 11) <|
    rr (gR w8 a0 1) fun x12 =>
    gd ((sh w8 x12).1 = 9) <|
    bd (gI w8 x12 1) fun x15 =>
    some (x15, w8)
def f_X_undo (N : Nat) (a0 : Nat) (w : gW) : Option (Int32 × gW) := f_X_undo_b0 N a0 w
def v_tells (N : Nat) (a0 : Nat) (a1 : Int32) (a2 : Nat) (w : gW) : Option (Int32 × gW) :=
  cd ((sh w a0).1 = 0) (f_P_tells N a0 a1 a2 w) <|
  cd ((sh w a0).1 = 1) (f_P_tells N a0 a1 a2 w) <|
  cd ((sh w a0).1 = 2) (f_P_tells N a0 a1 a2 w) <|
  cd ((sh w a0).1 = 3) (f_Ke_tells N a0 a1 a2 w) <|
  cd ((sh w a0).1 = 4) (f_P_tells N a0 a1 a2 w) <|
  cd ((sh w a0).1 = 5) (f_Wi_tells N a0 a1 a2 w) <|
  cd ((sh w a0).1 = 6) (f_Ke_tells N a0 a1 a2 w) <|
  none
def f_X_act_b0 (N : Nat) (a0 : Nat) (a1 : Int32) (a2 : Int32) (a3 : Int32) (w : gW) : Option (Int32 × gW) :=
  gd ((sh w a0).1 = 11) <|
  rr (gR w a0 10) fun x2 =>
  gd ((sh w x2).1 = 8) <|
  bd (sI w x2 1 0) fun w5 =>
  gd ((sh w5 a0).1 = 11) <|
  kl (f_X_payerAt N a0 a1 w5) fun x6 w7 =>
  nr x6 (
    some (0, w7)) fun x10 =>
  cd (a2 = 0) (
    gd ((sh w7 a0).1 = 11) <|
    rr (gR w7 a0 10) fun x14 =>
    kl (v_counts N x10 a3 x14 w7) fun x16 w17 =>
    some (x16, w17)) <|
  cd (a2 = 1) (
    gd ((sh w7 a0).1 = 11) <|
    rr (gR w7 a0 10) fun x21 =>
    kl (v_hands N x10 a3 x21 w7) fun x23 w24 =>
    some (x23, w24)) <|
  cd (a2 = 2) (
    gd ((sh w7 a0).1 = 11) <|
    rr (gR w7 a0 10) fun x28 =>
    kl (v_tells N x10 a3 x28 w7) fun x30 w31 =>
    some (x30, w31)) <|
  some (0, w7)
def f_X_act (N : Nat) (a0 : Nat) (a1 : Int32) (a2 : Int32) (a3 : Int32) (w : gW) : Option (Int32 × gW) := f_X_act_b0 N a0 a1 a2 a3 w
def f_X_trace_b0 (N : Nat) (a0 : Nat) (a1 : Int32) (w : gW) : Option (Int32 × gW) :=
  cd (a1 < 0) (
    some ((-1), w)) <|
  gd ((sh w a0).1 = 11) <|
  rr (gR w a0 10) fun x2 =>
  gd ((sh w x2).1 = 8) <|
  bd (gI w x2 1) fun x5 =>
  cd (x5 ≤ a1) (
    some ((-1), w)) <|
  cd (a1 < 20) (
    rr (gR w x2 0) fun x6 =>
    gd ((sh w x6).1 = 50) <|
    gd (¬ (a1 < 0 ∨ (sh w x6).2 ≤ a1.toNatClampNeg)) <|
    bd (gI w x6 a1.toNatClampNeg) fun x10 =>
    some (x10, w)) <|
  some ((-1), w)
def f_X_trace (N : Nat) (a0 : Nat) (a1 : Int32) (w : gW) : Option (Int32 × gW) := f_X_trace_b0 N a0 a1 w
def f_X_isOfKind_b0 (N : Nat) (a0 : Nat) (a1 : Int32) (w : gW) : Option (Int32 × gW) :=
  cd (a1 = 1) (
    gd ((sh w a0).1 < 7) <|
    bd (instE (sh w a0).1) fun x3 =>
    gd (x3 = 0 ∨ x3 = 1) <|
    some (x3, w)) <|
  cd (a1 = 2) (
    gd ((sh w a0).1 < 7) <|
    bd (instRo (sh w a0).1) fun x7 =>
    gd (x7 = 0 ∨ x7 = 1) <|
    some (x7, w)) <|
  cd (a1 = 3) (
    gd ((sh w a0).1 < 7) <|
    bd (instKe (sh w a0).1) fun x11 =>
    gd (x11 = 0 ∨ x11 = 1) <|
    some (x11, w)) <|
  cd (a1 = 4) (
    gd ((sh w a0).1 < 7) <|
    bd (instLi (sh w a0).1) fun x15 =>
    gd (x15 = 0 ∨ x15 = 1) <|
    some (x15, w)) <|
  cd (a1 = 5) (
    gd ((sh w a0).1 < 7) <|
    bd (instWi (sh w a0).1) fun x19 =>
    gd (x19 = 0 ∨ x19 = 1) <|
    some (x19, w)) <|
  cd (a1 = 6) (
    gd ((sh w a0).1 < 7) <|
    bd (instTo (sh w a0).1) fun x23 =>
    gd (x23 = 0 ∨ x23 = 1) <|
    some (x23, w)) <|
  cd (a1 = 0) (
  some (1, w)) <|
    some (0, w)
def f_X_isOfKind (N : Nat) (a0 : Nat) (a1 : Int32) (w : gW) : Option (Int32 × gW) := f_X_isOfKind_b0 N a0 a1 w
def f_X_taken_b0 (N : Nat) (a0 : Nat) (a1 : Int32) (a2 : Int32) (w : gW) : Option (Int32 × gW) :=
  cd (a2 < 0) (
    some ((-2), w)) <|
  cd (a2 < 7) (
    gd ((sh w a0).1 = 11) <|
    kl (f_X_payerAt N a0 a1 w) fun x1 w2 =>
    nr x1 (
      some ((-11), w2)) fun x5 =>
    kl (f_X_isOfKind N x5 a2 w2) fun x7 w8 =>
    cd (x7 = 0) (
      some ((-12), w8)) <|
    gd ((sh w8 x5).1 < 7) <|
    bd (gI w8 x5 0) fun x11 =>
    some (x11, w8)) <|
  some ((-2), w)
def f_X_taken (N : Nat) (a0 : Nat) (a1 : Int32) (a2 : Int32) (w : gW) : Option (Int32 × gW) := f_X_taken_b0 N a0 a1 a2 w
def f_X_count_b0 (N : Nat) (a0 : Nat) (a1 : Int32) (w : gW) : Option (Int32 × gW) :=
  cd (a1 = 0) (
    gd ((sh w a0).1 = 11) <|
    rr (gR w a0 1) fun x3 =>
    gd ((sh w x3).1 = 9) <|
    bd (gI w x3 1) fun x6 =>
    some (x6, w)) <|
  cd (a1 = 1) (
    gd ((sh w a0).1 = 11) <|
    bd (gI w a0 7) fun x9 =>
    some (x9, w)) <|
  cd (a1 = 2) (
    gd ((sh w a0).1 = 11) <|
    rr (gR w a0 1) fun x12 =>
    gd ((sh w x12).1 = 9) <|
    bd (gI w x12 7) fun x15 =>
    some (x15, w)) <|
  cd (a1 = 3) (
    gd ((sh w a0).1 = 11) <|
    rr (gR w a0 1) fun x18 =>
    gd ((sh w x18).1 = 9) <|
    bd (gI w x18 10) fun x21 =>
    some (x21, w)) <|
  cd (a1 = 4) (
    gd ((sh w a0).1 = 11) <|
    rr (gR w a0 1) fun x24 =>
    gd ((sh w x24).1 = 9) <|
    bd (gI w x24 13) fun x27 =>
    some (x27, w)) <|
  cd (a1 = 5) (
    gd ((sh w a0).1 = 11) <|
    bd (gI w a0 9) fun x30 =>
    some (x30, w)) <|
  cd (a1 = 6) (
    gd ((sh w a0).1 = 11) <|
    rr (gR w a0 10) fun x33 =>
    gd ((sh w x33).1 = 8) <|
    bd (gI w x33 1) fun x36 =>
    some (x36, w)) <|
  some ((-2), w)
def f_X_count (N : Nat) (a0 : Nat) (a1 : Int32) (w : gW) : Option (Int32 × gW) := f_X_count_b0 N a0 a1 w
def f_X_tape_b72 (N : Nat) (rec72 : Nat × Int32 × Int32 × Int32 × gW → Option (Int32 × gW)) (a0 : Nat) (a1 : Int32) (a3 : Int32) (a4 : Int32) (w : gW) : Option (Int32 × gW) :=
  cd (a3 ≤ a4) (
    some (1, w)) <|
  gd ((sh w a0).1 = 11) <|
  rr (gR w a0 13) fun x17 =>
  gd ((sh w x17).1 = 57) <|
  gd (¬ (a1 < 0 ∨ (sh w x17).2 ≤ a1.toNatClampNeg)) <|
  rr (gR w x17 a1.toNatClampNeg) fun x21 =>
  gd ((sh w x21).1 = 52) <|
  gd (¬ (a4 < 0 ∨ (sh w x21).2 ≤ a4.toNatClampNeg)) <|
  bd (sL w x21 a4.toNatClampNeg 0) fun w25 =>
  bd (a4 + 1) fun x26 =>
  rec72 (a0, a1, a3, x26, w25)
def f_X_tape_l72 (N : Nat) (a0 : Nat) (a1 : Int32) (a3 : Int32) (a4 : Int32) (w : gW) : Option (Int32 × gW) :=
  itr (fun rec (q : Nat × Int32 × Int32 × Int32 × gW) => f_X_tape_b72 N rec q.1 q.2.1 q.2.2.1 q.2.2.2.1 q.2.2.2.2) N (a0, a1, a3, a4, w)
def f_X_tape_b0 (N : Nat) (a0 : Nat) (a1 : Int32) (a2 : Int32) (a3 : Int32) (w : gW) : Option (Int32 × gW) :=
  kl (f_X_isTape N a1 w) fun x1 w2 =>
  cd (x1 = 0) (
  some ((-1), w2)) <|
    cd (a2 = (-1)) (
    gd ((sh w2 a0).1 = 11) <|
    rr (gR w2 a0 11) fun x28 =>
    gd ((sh w2 x28).1 = 50) <|
    gd (¬ (a1 < 0 ∨ (sh w2 x28).2 ≤ a1.toNatClampNeg)) <|
    bd (sI w2 x28 a1.toNatClampNeg (-1)) fun w32 =>
    gd ((sh w32 a0).1 = 11) <|
    rr (gR w32 a0 12) fun x34 =>
    gd ((sh w32 x34).1 = 50) <|
    gd (¬ (a1 < 0 ∨ (sh w32 x34).2 ≤ a1.toNatClampNeg)) <|
    bd (sI w32 x34 a1.toNatClampNeg 0) fun w38 =>
    some (1, w38)) <|
      cd (a2 < 0) (
        some ((-2), w2)) <|
      cd ((4 : Int32) < a2) (
        some ((-2), w2)) <|
      cd (a3 ≤ 60) (
        cd ((0 : Int32) ≤ a3) (
          gd ((sh w2 a0).1 = 11) <|
          rr (gR w2 a0 11) fun x5 =>
          gd ((sh w2 x5).1 = 50) <|
          gd (¬ (a1 < 0 ∨ (sh w2 x5).2 ≤ a1.toNatClampNeg)) <|
          bd (sI w2 x5 a1.toNatClampNeg a2) fun w9 =>
          gd ((sh w9 a0).1 = 11) <|
          rr (gR w9 a0 12) fun x11 =>
          gd ((sh w9 x11).1 = 50) <|
          gd (¬ (a1 < 0 ∨ (sh w9 x11).2 ≤ a1.toNatClampNeg)) <|
          bd (sI w9 x11 a1.toNatClampNeg a3) fun w15 =>
          f_X_tape_l72 N a0 a1 a3 0 w15) <|
        some ((-14), w2)) <|
      some ((-2), w2)
def f_X_tape (N : Nat) (a0 : Nat) (a1 : Int32) (a2 : Int32) (a3 : Int32) (w : gW) : Option (Int32 × gW) := f_X_tape_b0 N a0 a1 a2 a3 w
def f_X_narrowed_b0 (N : Nat) (a0 : Int32) (a1 : Int64) (w : gW) : Option (Int64 × gW) :=
  cd (a0 = 0) (
    bd (a1.toInt32) fun x2 =>
    bd (x2.toInt8.toInt32) fun x3 =>
    bd (x3.toInt64) fun x4 =>
    some (x4, w)) <|
  cd (a0 = 1) (
    bd (a1.toInt32) fun x6 =>
    bd (x6.toInt16.toInt32) fun x7 =>
    bd (x7.toInt64) fun x8 =>
    some (x8, w)) <|
  cd (a0 = 2) (
    bd (a1.toInt32) fun x10 =>
    bd (x10.toInt64) fun x11 =>
    some (x11, w)) <|
  cd (a0 = 3) (
    some (a1, w)) <|
  bd (lg_cmp a1 0) fun x13 =>
  cd (x13 = 0) (
    some (0, w)) <|
  some (1, w)
def f_X_narrowed (N : Nat) (a0 : Int32) (a1 : Int64) (w : gW) : Option (Int64 × gW) := f_X_narrowed_b0 N a0 a1 w
def f_X_item_b0 (N : Nat) (a0 : Nat) (a1 : Int32) (a2 : Int32) (a3 : Int64) (w : gW) : Option (Int32 × gW) :=
  kl (f_X_isTape N a1 w) fun x1 w2 =>
  cd (x1 = 0) (
  some ((-1), w2)) <|
    gd ((sh w2 a0).1 = 11) <|
    rr (gR w2 a0 11) fun x5 =>
    gd ((sh w2 x5).1 = 50) <|
    gd (¬ (a1 < 0 ∨ (sh w2 x5).2 ≤ a1.toNatClampNeg)) <|
    bd (gI w2 x5 a1.toNatClampNeg) fun x9 =>
    cd (x9 = (-1)) (
    some ((-11), w2)) <|
      cd (a2 < 0) (
        some ((-13), w2)) <|
      rr (gR w2 a0 12) fun x10 =>
      gd ((sh w2 x10).1 = 50) <|
      gd (¬ (a1 < 0 ∨ (sh w2 x10).2 ≤ a1.toNatClampNeg)) <|
      bd (gI w2 x10 a1.toNatClampNeg) fun x14 =>
      cd (a2 < x14) (
        rr (gR w2 a0 13) fun x15 =>
        gd ((sh w2 x15).1 = 57) <|
        gd (¬ (a1 < 0 ∨ (sh w2 x15).2 ≤ a1.toNatClampNeg)) <|
        rr (gR w2 x15 a1.toNatClampNeg) fun x19 =>
        bd (gI w2 x5 a1.toNatClampNeg) fun x21 =>
        kl (f_X_narrowed N x21 a3 w2) fun x22 w23 =>
        gd ((sh w23 x19).1 = 52) <|
        gd (¬ (a2 < 0 ∨ (sh w23 x19).2 ≤ a2.toNatClampNeg)) <|
        bd (sL w23 x19 a2.toNatClampNeg x22) fun w27 =>
        some (1, w27)) <|
      some ((-13), w2)
def f_X_item (N : Nat) (a0 : Nat) (a1 : Int32) (a2 : Int32) (a3 : Int64) (w : gW) : Option (Int32 × gW) := f_X_item_b0 N a0 a1 a2 a3 w
def f_X_read_b0 (N : Nat) (a0 : Nat) (a1 : Int32) (a2 : Int32) (w : gW) : Option (Int64 × gW) :=
  kl (f_X_isTape N a1 w) fun x1 w2 =>
  cd (x1 = 0) (
    some ((-9223372036854775808), w2)) <|
  cd (a2 < 0) (
    some ((-9223372036854775808), w2)) <|
  gd ((sh w2 a0).1 = 11) <|
  rr (gR w2 a0 12) fun x5 =>
  gd ((sh w2 x5).1 = 50) <|
  gd (¬ (a1 < 0 ∨ (sh w2 x5).2 ≤ a1.toNatClampNeg)) <|
  bd (gI w2 x5 a1.toNatClampNeg) fun x9 =>
  cd (a2 < x9) (
    rr (gR w2 a0 13) fun x10 =>
    gd ((sh w2 x10).1 = 57) <|
    gd (¬ (a1 < 0 ∨ (sh w2 x10).2 ≤ a1.toNatClampNeg)) <|
    rr (gR w2 x10 a1.toNatClampNeg) fun x14 =>
    gd ((sh w2 x14).1 = 52) <|
    gd (¬ (a2 < 0 ∨ (sh w2 x14).2 ≤ a2.toNatClampNeg)) <|
    bd (gL w2 x14 a2.toNatClampNeg) fun x18 =>
    some (x18, w2)) <|
  some ((-9223372036854775808), w2)
def f_X_read (N : Nat) (a0 : Nat) (a1 : Int32) (a2 : Int32) (w : gW) : Option (Int64 × gW) := f_X_read_b0 N a0 a1 a2 w
def f_X_isStretch_b0 (N : Nat) (a0 : Int32) (a1 : Int32) (a2 : Int32) (w : gW) : Option (Int32 × gW) :=
  cd (a2 < 0) (
    some (0, w)) <|
  cd (a1 < 0) (
    some (0, w)) <|
  cd (a0 < a2) (
    some (0, w)) <|
  bd (a0 - a2) fun x1 =>
  cd (x1 < a1) (
    some (0, w)) <|
  some (1, w)
def f_X_isStretch (N : Nat) (a0 : Int32) (a1 : Int32) (a2 : Int32) (w : gW) : Option (Int32 × gW) := f_X_isStretch_b0 N a0 a1 a2 w
def f_X_shift_b0 (N : Nat) (a0 : Nat) (a1 : Int32) (a2 : Int32) (a3 : Int32) (a4 : Int32) (a5 : Int32) (w : gW) : Option (Int32 × gW) :=
  kl (f_X_isTape N a1 w) fun x1 w2 =>
  cd (x1 = 0) (
    some ((-1), w2)) <|
  kl (f_X_isTape N a3 w2) fun x4 w5 =>
  cd (x4 = 0) (
  some ((-1), w5)) <|
    gd ((sh w5 a0).1 = 11) <|
    rr (gR w5 a0 11) fun x8 =>
    gd ((sh w5 x8).1 = 50) <|
    gd (¬ (a1 < 0 ∨ (sh w5 x8).2 ≤ a1.toNatClampNeg)) <|
    bd (gI w5 x8 a1.toNatClampNeg) fun x12 =>
    cd (x12 = (-1)) (
      some ((-11), w5)) <|
    gd (¬ (a3 < 0 ∨ (sh w5 x8).2 ≤ a3.toNatClampNeg)) <|
    bd (gI w5 x8 a3.toNatClampNeg) fun x14 =>
    cd (x14 = (-1)) (
    some ((-11), w5)) <|
      bd (gI w5 x8 a1.toNatClampNeg) fun x15 =>
      bd (gI w5 x8 a3.toNatClampNeg) fun x16 =>
      cd (x15 = x16) (
        rr (gR w5 a0 12) fun x17 =>
        gd ((sh w5 x17).1 = 50) <|
        gd (¬ (a1 < 0 ∨ (sh w5 x17).2 ≤ a1.toNatClampNeg)) <|
        bd (gI w5 x17 a1.toNatClampNeg) fun x21 =>
        kl (f_X_isStretch N x21 a2 a5 w5) fun x22 w23 =>
        cd (x22 = 0) (
          some ((-13), w23)) <|
        gd ((sh w23 a0).1 = 11) <|
        rr (gR w23 a0 12) fun x26 =>
        gd ((sh w23 x26).1 = 50) <|
        gd (¬ (a3 < 0 ∨ (sh w23 x26).2 ≤ a3.toNatClampNeg)) <|
        bd (gI w23 x26 a3.toNatClampNeg) fun x30 =>
        kl (f_X_isStretch N x30 a4 a5 w23) fun x31 w32 =>
        cd (x31 = 0) (
        some ((-13), w32)) <|
          gd ((sh w32 a0).1 = 11) <|
          rr (gR w32 a0 13) fun x35 =>
          gd ((sh w32 x35).1 = 57) <|
          gd (¬ (a1 < 0 ∨ (sh w32 x35).2 ≤ a1.toNatClampNeg)) <|
          rr (gR w32 x35 a1.toNatClampNeg) fun x39 =>
          gd (¬ (a3 < 0 ∨ (sh w32 x35).2 ≤ a3.toNatClampNeg)) <|
          rr (gR w32 x35 a3.toNatClampNeg) fun x42 =>
          gd ((sh w32 x39).1 = 52) <|
          gd ((sh w32 x42).1 = 52) <|
          gd (¬ a2 < 0) <|
          gd (¬ a4 < 0) <|
          gd (¬ a5 < 0) <|
          gd (a2.toNatClampNeg + a5.toNatClampNeg ≤ (sh w32 x39).2) <|
          gd (a4.toNatClampNeg + a5.toNatClampNeg ≤ (sh w32 x42).2) <|
          bd (cL w32 x39 a2.toNatClampNeg x42 a4.toNatClampNeg a5.toNatClampNeg) fun w51 =>
          some (a5, w51)) <|
      some ((-12), w5)
def f_X_shift (N : Nat) (a0 : Nat) (a1 : Int32) (a2 : Int32) (a3 : Int32) (a4 : Int32) (a5 : Int32) (w : gW) : Option (Int32 × gW) := f_X_shift_b0 N a0 a1 a2 a3 a4 a5 w
set_option maxRecDepth 20000 in
def f_M_init_b0 (N : Nat) (a0 : Nat) (w : gW) : Option (Unit × gW) :=
  gd ((sh w a0).1 = 12) <|
  bd (sI w a0 0 0) fun w2 =>
  bd (nx w2) fun p3 =>
  bd (nw w2 50 6) fun w4 =>
  gd ((sh w4 p3).1 = 50) <|
  gd (¬ ((0 : Int32) < 0 ∨ (sh w4 p3).2 ≤ (0 : Int32).toNatClampNeg)) <|
  bd (sI w4 p3 (0 : Int32).toNatClampNeg 1) fun w7 =>
  gd ((sh w7 p3).1 = 50) <|
  gd (¬ ((1 : Int32) < 0 ∨ (sh w7 p3).2 ≤ (1 : Int32).toNatClampNeg)) <|
  bd (sI w7 p3 (1 : Int32).toNatClampNeg 2) fun w10 =>
  gd ((sh w10 p3).1 = 50) <|
  gd (¬ ((2 : Int32) < 0 ∨ (sh w10 p3).2 ≤ (2 : Int32).toNatClampNeg)) <|
  bd (sI w10 p3 (2 : Int32).toNatClampNeg 5) fun w13 =>
  gd ((sh w13 p3).1 = 50) <|
  gd (¬ ((3 : Int32) < 0 ∨ (sh w13 p3).2 ≤ (3 : Int32).toNatClampNeg)) <|
  bd (sI w13 p3 (3 : Int32).toNatClampNeg 10) fun w16 =>
  gd ((sh w16 p3).1 = 50) <|
  gd (¬ ((4 : Int32) < 0 ∨ (sh w16 p3).2 ≤ (4 : Int32).toNatClampNeg)) <|
  bd (sI w16 p3 (4 : Int32).toNatClampNeg 20) fun w19 =>
  gd ((sh w19 p3).1 = 50) <|
  gd (¬ ((5 : Int32) < 0 ∨ (sh w19 p3).2 ≤ (5 : Int32).toNatClampNeg)) <|
  bd (sI w19 p3 (5 : Int32).toNatClampNeg 50) fun w22 =>
  gd ((sh w22 a0).1 = 12) <|
  bd (sR w22 a0 1 (some p3)) fun w24 =>
  bd (nx w24) fun p25 =>
  bd (nw w24 50 4) fun w26 =>
  gd ((sh w26 a0).1 = 12) <|
  bd (sR w26 a0 2 (some p25)) fun w28 =>
  bd (nx w28) fun p29 =>
  bd (nw w28 50 4) fun w30 =>
  gd ((sh w30 a0).1 = 12) <|
  bd (sR w30 a0 3 (some p29)) fun w32 =>
  bd (nx w32) fun p33 =>
  bd (nw w32 50 4) fun w34 =>
  gd ((sh w34 a0).1 = 12) <|
  bd (sR w34 a0 4 (some p33)) fun w36 =>
  bd (nx w36) fun p37 =>
  bd (nw w36 50 16) fun w38 =>
  gd ((sh w38 a0).1 = 12) <|
  bd (sR w38 a0 5 (some p37)) fun w40 =>
  bd (nx w40) fun p41 =>
  bd (nw w40 50 24) fun w42 =>
  gd ((sh w42 a0).1 = 12) <|
  bd (sR w42 a0 6 (some p41)) fun w44 =>
  bd (nx w44) fun p45 =>
  bd (nw w44 50 6) fun w46 =>
  gd ((sh w46 p45).1 = 50) <|
  gd (¬ ((0 : Int32) < 0 ∨ (sh w46 p45).2 ≤ (0 : Int32).toNatClampNeg)) <|
  bd (sI w46 p45 (0 : Int32).toNatClampNeg 9) fun w49 =>
  gd ((sh w49 p45).1 = 50) <|
  gd (¬ ((1 : Int32) < 0 ∨ (sh w49 p45).2 ≤ (1 : Int32).toNatClampNeg)) <|
  bd (sI w49 p45 (1 : Int32).toNatClampNeg 9) fun w52 =>
  gd ((sh w52 p45).1 = 50) <|
  gd (¬ ((2 : Int32) < 0 ∨ (sh w52 p45).2 ≤ (2 : Int32).toNatClampNeg)) <|
  bd (sI w52 p45 (2 : Int32).toNatClampNeg 9) fun w55 =>
  gd ((sh w55 p45).1 = 50) <|
  gd (¬ ((3 : Int32) < 0 ∨ (sh w55 p45).2 ≤ (3 : Int32).toNatClampNeg)) <|
  bd (sI w55 p45 (3 : Int32).toNatClampNeg 9) fun w58 =>
  gd ((sh w58 p45).1 = 50) <|
  gd (¬ ((4 : Int32) < 0 ∨ (sh w58 p45).2 ≤ (4 : Int32).toNatClampNeg)) <|
  bd (sI w58 p45 (4 : Int32).toNatClampNeg 9) fun w61 =>
  gd ((sh w61 p45).1 = 50) <|
  gd (¬ ((5 : Int32) < 0 ∨ (sh w61 p45).2 ≤ (5 : Int32).toNatClampNeg)) <|
  bd (sI w61 p45 (5 : Int32).toNatClampNeg 9) fun w64 =>
  gd ((sh w64 a0).1 = 12) <|
  bd (sR w64 a0 7 (some p45)) fun w66 =>
  gd ((sh w66 a0).1 = 12) <|
  bd (sI w66 a0 8 0) fun w68 =>
  gd ((sh w68 a0).1 = 12) <|
  bd (sI w68 a0 9 (-1)) fun w70 =>
  gd ((sh w70 a0).1 = 12) <|
  bd (sI w70 a0 10 0) fun w72 =>
  gd ((sh w72 a0).1 = 12) <|
  bd (sI w72 a0 11 0) fun w74 =>
  gd ((sh w74 a0).1 = 12) <|
  bd (sI w74 a0 12 0) fun w76 =>
  bd (nx w76) fun p77 =>
  bd (nw w76 50 100) fun w78 =>
  gd ((sh w78 a0).1 = 12) <|
  bd (sR w78 a0 13 (some p77)) fun w80 =>
  bd (nx w80) fun p81 =>
  bd (nw w80 50 6) fun w82 =>
  gd ((sh w82 a0).1 = 12) <|
  bd (sR w82 a0 14 (some p81)) fun w84 =>
  bd (nx w84) fun p85 =>
  bd (nw w84 50 60) fun w86 =>
  gd ((sh w86 a0).1 = 12) <|
  bd (sR w86 a0 15 (some p85)) fun w88 =>
  bd (nx w88) fun p89 =>
  bd (nw w88 50 60) fun w90 =>
  gd ((sh w90 a0).1 = 12) <|
  bd (sR w90 a0 16 (some p89)) fun w92 =>
  bd (nx w92) fun p93 =>
  bd (nw w92 50 60) fun w94 =>
  gd ((sh w94 a0).1 = 12) <|
  bd (sR w94 a0 17 (some p93)) fun w96 =>
  bd (nx w96) fun p97 =>
  bd (nw w96 50 60) fun w98 =>
  gd ((sh w98 a0).1 = 12) <|
  bd (sR w98 a0 18 (some p97)) fun w100 =>
  bd (nx w100) fun p101 =>
  bd (nw w100 50 600) fun w102 =>
  gd ((sh w102 a0).1 = 12) <|
  bd (sR w102 a0 19 (some p101)) fun w104 =>
  bd (nx w104) fun p105 =>
  bd (nw w104 50 101) fun w106 =>
  gd ((sh w106 a0).1 = 12) <|
  bd (sR w106 a0 20 (some p105)) fun w108 =>
  gd ((sh w108 a0).1 = 12) <|
  bd (sI w108 a0 21 0) fun w110 =>
  gd ((sh w110 a0).1 = 12) <|
  bd (sI w110 a0 22 0) fun w112 =>
  gd ((sh w112 a0).1 = 12) <|
  bd (sI w112 a0 23 0) fun w114 =>
  bd (nx w114) fun p115 =>
  bd (nw w114 50 12) fun w116 =>
  gd ((sh w116 p115).1 = 50) <|
  gd (¬ ((0 : Int32) < 0 ∨ (sh w116 p115).2 ≤ (0 : Int32).toNatClampNeg)) <|
  bd (sI w116 p115 (0 : Int32).toNatClampNeg 104) fun w119 =>
  gd ((sh w119 p115).1 = 50) <|
  gd (¬ ((1 : Int32) < 0 ∨ (sh w119 p115).2 ≤ (1 : Int32).toNatClampNeg)) <|
  bd (sI w119 p115 (1 : Int32).toNatClampNeg 101) fun w122 =>
  gd ((sh w122 p115).1 = 50) <|
  gd (¬ ((2 : Int32) < 0 ∨ (sh w122 p115).2 ≤ (2 : Int32).toNatClampNeg)) <|
  bd (sI w122 p115 (2 : Int32).toNatClampNeg 102) fun w125 =>
  gd ((sh w125 p115).1 = 50) <|
  gd (¬ ((3 : Int32) < 0 ∨ (sh w125 p115).2 ≤ (3 : Int32).toNatClampNeg)) <|
  bd (sI w125 p115 (3 : Int32).toNatClampNeg 116) fun w128 =>
  gd ((sh w128 p115).1 = 50) <|
  gd (¬ ((4 : Int32) < 0 ∨ (sh w128 p115).2 ≤ (4 : Int32).toNatClampNeg)) <|
  bd (sI w128 p115 (4 : Int32).toNatClampNeg 107) fun w131 =>
  gd ((sh w131 p115).1 = 50) <|
  gd (¬ ((5 : Int32) < 0 ∨ (sh w131 p115).2 ≤ (5 : Int32).toNatClampNeg)) <|
  bd (sI w131 p115 (5 : Int32).toNatClampNeg 101) fun w134 =>
  gd ((sh w134 p115).1 = 50) <|
  gd (¬ ((6 : Int32) < 0 ∨ (sh w134 p115).2 ≤ (6 : Int32).toNatClampNeg)) <|
  bd (sI w134 p115 (6 : Int32).toNatClampNeg 101) fun w137 =>
  gd ((sh w137 p115).1 = 50) <|
  gd (¬ ((7 : Int32) < 0 ∨ (sh w137 p115).2 ≤ (7 : Int32).toNatClampNeg)) <|
  bd (sI w137 p115 (7 : Int32).toNatClampNeg 112) fun w140 =>
  gd ((sh w140 p115).1 = 50) <|
  gd (¬ ((8 : Int32) < 0 ∨ (sh w140 p115).2 ≤ (8 : Int32).toNatClampNeg)) <|
  bd (sI w140 p115 (8 : Int32).toNatClampNeg 109) fun w143 =>
  gd ((sh w143 p115).1 = 50) <|
  gd (¬ ((9 : Int32) < 0 ∨ (sh w143 p115).2 ≤ (9 : Int32).toNatClampNeg)) <|
  bd (sI w143 p115 (9 : Int32).toNatClampNeg 111) fun w146 =>
  gd ((sh w146 p115).1 = 50) <|
  gd (¬ ((10 : Int32) < 0 ∨ (sh w146 p115).2 ≤ (10 : Int32).toNatClampNeg)) <|
  bd (sI w146 p115 (10 : Int32).toNatClampNeg 115) fun w149 =>
  gd ((sh w149 p115).1 = 50) <|
  gd (¬ ((11 : Int32) < 0 ∨ (sh w149 p115).2 ≤ (11 : Int32).toNatClampNeg)) <|
  bd (sI w149 p115 (11 : Int32).toNatClampNeg 116) fun w152 =>
  gd ((sh w152 a0).1 = 12) <|
  bd (sR w152 a0 24 (some p115)) fun w154 =>
  bd (nx w154) fun p155 =>
  bd (nw w154 53 100) fun w156 =>
  gd ((sh w156 a0).1 = 12) <|
  bd (sR w156 a0 25 (some p155)) fun w158 =>
  bd (nx w158) fun p159 =>
  bd (nw w158 50 6) fun w160 =>
  gd ((sh w160 a0).1 = 12) <|
  bd (sR w160 a0 26 (some p159)) fun w162 =>
  bd (nx w162) fun p163 =>
  bd (nw w162 50 6) fun w164 =>
  gd ((sh w164 a0).1 = 12) <|
  bd (sR w164 a0 27 (some p163)) fun w166 =>
  bd (nx w166) fun p167 =>
  bd (nw w166 50 6) fun w168 =>
  gd ((sh w168 a0).1 = 12) <|
  bd (sR w168 a0 28 (some p167)) fun w170 =>
  bd (nx w170) fun p171 =>
  bd (nw w170 50 6) fun w172 =>
  gd ((sh w172 a0).1 = 12) <|
  bd (sR w172 a0 29 (some p171)) fun w174 =>
  bd (nx w174) fun p175 =>
  bd (nw w174 50 6) fun w176 =>
  gd ((sh w176 a0).1 = 12) <|
  bd (sR w176 a0 30 (some p175)) fun w178 =>
  bd (nx w178) fun p179 =>
  bd (nw w178 50 6) fun w180 =>
  gd ((sh w180 a0).1 = 12) <|
  bd (sR w180 a0 31 (some p179)) fun w182 =>
  gd ((sh w182 a0).1 = 12) <|
  bd (sI w182 a0 32 0) fun w184 =>
  gd ((sh w184 a0).1 = 12) <|
  bd (sI w184 a0 33 0) fun w186 =>
  gd ((sh w186 a0).1 = 12) <|
  bd (sI w186 a0 34 0) fun w188 =>
  bd (nx w188) fun p189 =>
  bd (nw w188 50 24) fun w190 =>
  gd ((sh w190 a0).1 = 12) <|
  bd (sR w190 a0 35 (some p189)) fun w192 =>
  bd (nx w192) fun p193 =>
  bd (nw w192 50 6) fun w194 =>
  gd ((sh w194 a0).1 = 12) <|
  bd (sR w194 a0 36 (some p193)) fun w196 =>
  bd (nx w196) fun p197 =>
  bd (nw w196 50 4) fun w198 =>
  gd ((sh w198 a0).1 = 12) <|
  bd (sR w198 a0 37 (some p197)) fun w200 =>
  gd ((sh w200 a0).1 = 12) <|
  bd (sI w200 a0 38 0) fun w202 =>
  gd ((sh w202 a0).1 = 12) <|
  bd (sI w202 a0 39 0) fun w204 =>
  bd (nx w204) fun p205 =>
  bd (nw w204 53 61) fun w206 =>
  gd ((sh w206 a0).1 = 12) <|
  bd (sR w206 a0 40 (some p205)) fun w208 =>
  gd ((sh w208 a0).1 = 12) <|
  bd (sI w208 a0 41 0) fun w210 =>
  bd (nx w210) fun p211 =>
  bd (nw w210 50 4) fun w212 =>
  gd ((sh w212 a0).1 = 12) <|
  bd (sR w212 a0 42 (some p211)) fun w214 =>
  gd ((sh w214 a0).1 = 12) <|
  bd (sI w214 a0 43 0) fun w216 =>
  bd (nx w216) fun p217 =>
  bd (nw w216 50 4) fun w218 =>
  gd ((sh w218 a0).1 = 12) <|
  bd (sR w218 a0 44 (some p217)) fun w220 =>
  bd (nx w220) fun p221 =>
  bd (nw w220 50 4) fun w222 =>
  gd ((sh w222 a0).1 = 12) <|
  bd (sR w222 a0 45 (some p221)) fun w224 =>
  gd ((sh w224 a0).1 = 12) <|
  bd (sI w224 a0 46 0) fun w226 =>
  bd (nx w226) fun p227 =>
  bd (nw w226 50 8) fun w228 =>
  gd ((sh w228 a0).1 = 12) <|
  bd (sR w228 a0 47 (some p227)) fun w230 =>
  bd (nx w230) fun p231 =>
  bd (nw w230 50 8) fun w232 =>
  gd ((sh w232 a0).1 = 12) <|
  bd (sR w232 a0 48 (some p231)) fun w234 =>
  gd ((sh w234 a0).1 = 12) <|
  bd (sI w234 a0 49 0) fun w236 =>
  gd ((sh w236 a0).1 = 12) <|
  bd (sI w236 a0 50 (-1)) fun w238 =>
  gd ((sh w238 a0).1 = 12) <|
  bd (sI w238 a0 51 0) fun w240 =>
  gd ((sh w240 a0).1 = 12) <|
  bd (sI w240 a0 52 0) fun w242 =>
  gd ((sh w242 a0).1 = 12) <|
  bd (sI w242 a0 53 0) fun w244 =>
  gd ((sh w244 a0).1 = 12) <|
  bd (sI w244 a0 54 0) fun w246 =>
  bd (nx w246) fun p247 =>
  bd (nw w246 50 4) fun w248 =>
  gd ((sh w248 a0).1 = 12) <|
  bd (sR w248 a0 55 (some p247)) fun w250 =>
  bd (nx w250) fun p251 =>
  bd (nw w250 50 4) fun w252 =>
  gd ((sh w252 a0).1 = 12) <|
  bd (sR w252 a0 56 (some p251)) fun w254 =>
  bd (nx w254) fun p255 =>
  bd (nw w254 50 4) fun w256 =>
  gd ((sh w256 a0).1 = 12) <|
  bd (sR w256 a0 57 (some p255)) fun w258 =>
  bd (nx w258) fun p259 =>
  bd (nw w258 50 16) fun w260 =>
  gd ((sh w260 a0).1 = 12) <|
  bd (sR w260 a0 58 (some p259)) fun w262 =>
  bd (nx w262) fun p263 =>
  bd (nw w262 50 24) fun w264 =>
  gd ((sh w264 a0).1 = 12) <|
  bd (sR w264 a0 59 (some p263)) fun w266 =>
  bd (nx w266) fun p267 =>
  bd (nw w266 50 6) fun w268 =>
  gd ((sh w268 a0).1 = 12) <|
  bd (sR w268 a0 60 (some p267)) fun w270 =>
  bd (nx w270) fun p271 =>
  bd (nw w270 50 4) fun w272 =>
  gd ((sh w272 a0).1 = 12) <|
  bd (sR w272 a0 61 (some p271)) fun w274 =>
  bd (nx w274) fun p275 =>
  bd (nw w274 50 4) fun w276 =>
  gd ((sh w276 a0).1 = 12) <|
  bd (sR w276 a0 62 (some p275)) fun w278 =>
  bd (nx w278) fun p279 =>
  bd (nw w278 50 4) fun w280 =>
  gd ((sh w280 a0).1 = 12) <|
  bd (sR w280 a0 63 (some p279)) fun w282 =>
  bd (nx w282) fun p283 =>
  bd (nw w282 50 8) fun w284 =>
  gd ((sh w284 a0).1 = 12) <|
  bd (sR w284 a0 64 (some p283)) fun w286 =>
  bd (nx w286) fun p287 =>
  bd (nw w286 50 8) fun w288 =>
  gd ((sh w288 a0).1 = 12) <|
  bd (sR w288 a0 65 (some p287)) fun w290 =>
  gd ((sh w290 a0).1 = 12) <|
  bd (sI w290 a0 66 0) fun w292 =>
  bd (nx w292) fun p293 =>
  bd (nw w292 50 20) fun w294 =>
  gd ((sh w294 a0).1 = 12) <|
  bd (sR w294 a0 67 (some p293)) fun w296 =>
  bd (nx w296) fun p297 =>
  bd (nw w296 50 6) fun w298 =>
  gd ((sh w298 p297).1 = 50) <|
  gd (¬ ((0 : Int32) < 0 ∨ (sh w298 p297).2 ≤ (0 : Int32).toNatClampNeg)) <|
  bd (sI w298 p297 (0 : Int32).toNatClampNeg (-1)) fun w301 =>
  gd ((sh w301 p297).1 = 50) <|
  gd (¬ ((1 : Int32) < 0 ∨ (sh w301 p297).2 ≤ (1 : Int32).toNatClampNeg)) <|
  bd (sI w301 p297 (1 : Int32).toNatClampNeg (-1)) fun w304 =>
  gd ((sh w304 p297).1 = 50) <|
  gd (¬ ((2 : Int32) < 0 ∨ (sh w304 p297).2 ≤ (2 : Int32).toNatClampNeg)) <|
  bd (sI w304 p297 (2 : Int32).toNatClampNeg (-1)) fun w307 =>
  gd ((sh w307 p297).1 = 50) <|
  gd (¬ ((3 : Int32) < 0 ∨ (sh w307 p297).2 ≤ (3 : Int32).toNatClampNeg)) <|
  bd (sI w307 p297 (3 : Int32).toNatClampNeg (-1)) fun w310 =>
  gd ((sh w310 p297).1 = 50) <|
  gd (¬ ((4 : Int32) < 0 ∨ (sh w310 p297).2 ≤ (4 : Int32).toNatClampNeg)) <|
  bd (sI w310 p297 (4 : Int32).toNatClampNeg (-1)) fun w313 =>
  gd ((sh w313 p297).1 = 50) <|
  gd (¬ ((5 : Int32) < 0 ∨ (sh w313 p297).2 ≤ (5 : Int32).toNatClampNeg)) <|
  bd (sI w313 p297 (5 : Int32).toNatClampNeg (-1)) fun w316 =>
  gd ((sh w316 a0).1 = 12) <|
  bd (sR w316 a0 68 (some p297)) fun w318 =>
  bd (nx w318) fun p319 =>
  bd (nw w318 50 6) fun w320 =>
  gd ((sh w320 a0).1 = 12) <|
  bd (sR w320 a0 69 (some p319)) fun w322 =>
  bd (nx w322) fun p323 =>
  bd (nw w322 52 360) fun w324 =>
  gd ((sh w324 a0).1 = 12) <|
  bd (sR w324 a0 70 (some p323)) fun w326 =>
  bd (nx w326) fun p327 =>
  bd (nw w326 52 60) fun w328 =>
  gd ((sh w328 a0).1 = 12) <|
  bd (sR w328 a0 71 (some p327)) fun w330 =>
  some ((), w330)
def f_M_init (N : Nat) (a0 : Nat) (w : gW) : Option (Unit × gW) := f_M_init_b0 N a0 w
def f_M_in_b0 (N : Nat) (a1 : Int32) (a2 : Int32) (a3 : Int32) (w : gW) : Option (Int32 × gW) :=
  cd (a1 < a2) (
    some (0, w)) <|
  cd (a3 < a1) (
    some (0, w)) <|
  some (1, w)
def f_M_in (N : Nat) (a0 : Nat) (a1 : Int32) (a2 : Int32) (a3 : Int32) (w : gW) : Option (Int32 × gW) := f_M_in_b0 N a1 a2 a3 w
def f_M_isPayer_b0 (N : Nat) (a0 : Nat) (a1 : Int32) (w : gW) : Option (Int32 × gW) :=
  gd ((sh w a0).1 = 12) <|
  bd (gI w a0 0) fun x2 =>
  bd (x2 - 1) fun x3 =>
  kl (f_M_in N a0 a1 0 x3 w) fun x4 w5 =>
  gd (x4 = 0 ∨ x4 = 1) <|
  some (x4, w5)
def f_M_isPayer (N : Nat) (a0 : Nat) (a1 : Int32) (w : gW) : Option (Int32 × gW) := f_M_isPayer_b0 N a0 a1 w
def f_M_isSort_b0 (N : Nat) (a0 : Nat) (a1 : Int32) (w : gW) : Option (Int32 × gW) :=
  gd ((sh w a0).1 = 12) <|
  kl (f_M_in N a0 a1 0 5 w) fun x1 w2 =>
  gd (x1 = 0 ∨ x1 = 1) <|
  some (x1, w2)
def f_M_isSort (N : Nat) (a0 : Nat) (a1 : Int32) (w : gW) : Option (Int32 × gW) := f_M_isSort_b0 N a0 a1 w
def f_M_isPrice_b0 (N : Nat) (a0 : Nat) (a1 : Int32) (w : gW) : Option (Int32 × gW) :=
  gd ((sh w a0).1 = 12) <|
  kl (f_M_in N a0 a1 1 199 w) fun x1 w2 =>
  gd (x1 = 0 ∨ x1 = 1) <|
  some (x1, w2)
def f_M_isPrice (N : Nat) (a0 : Nat) (a1 : Int32) (w : gW) : Option (Int32 × gW) := f_M_isPrice_b0 N a0 a1 w
def f_M_payer_b97 (N : Nat) (rec97 : Nat × Int32 × gW → Option (Int32 × gW)) (a0 : Nat) (a3 : Int32) (w : gW) : Option (Int32 × gW) :=
  cd ((6 : Int32) ≤ a3) (
    gd ((sh w a0).1 = 12) <|
    bd (gI w a0 0) fun x32 =>
    bd (x32 + 1) fun x33 =>
    bd (sI w a0 0 x33) fun w34 =>
    gd ((sh w34 a0).1 = 12) <|
    bd (gI w34 a0 0) fun x36 =>
    bd (x36 - 1) fun x37 =>
    some (x37, w34)) <|
  gd ((sh w a0).1 = 12) <|
  rr (gR w a0 6) fun x39 =>
  bd (gI w a0 0) fun x41 =>
  bd (6 * x41) fun x42 =>
  bd (x42 + a3) fun x43 =>
  gd ((sh w x39).1 = 50) <|
  gd (¬ (x43 < 0 ∨ (sh w x39).2 ≤ x43.toNatClampNeg)) <|
  bd (sI w x39 x43.toNatClampNeg 0) fun w46 =>
  bd (a3 + 1) fun x47 =>
  rec97 (a0, x47, w46)
def f_M_payer_l97 (N : Nat) (a0 : Nat) (a3 : Int32) (w : gW) : Option (Int32 × gW) :=
  itr (fun rec (q : Nat × Int32 × gW) => f_M_payer_b97 N rec q.1 q.2.1 q.2.2) N (a0, a3, w)
def f_M_payer_b70 (N : Nat) (rec70 : Nat × Int32 × gW → Option (Int32 × gW)) (a0 : Nat) (a3 : Int32) (w : gW) : Option (Int32 × gW) :=
  cd ((4 : Int32) ≤ a3) (
    f_M_payer_l97 N a0 0 w) <|
  gd ((sh w a0).1 = 12) <|
  rr (gR w a0 5) fun x49 =>
  bd (gI w a0 0) fun x51 =>
  bd (4 * x51) fun x52 =>
  bd (x52 + a3) fun x53 =>
  gd ((sh w x49).1 = 50) <|
  gd (¬ (x53 < 0 ∨ (sh w x49).2 ≤ x53.toNatClampNeg)) <|
  bd (sI w x49 x53.toNatClampNeg 0) fun w56 =>
  bd (a3 + 1) fun x57 =>
  rec70 (a0, x57, w56)
def f_M_payer_l70 (N : Nat) (a0 : Nat) (a3 : Int32) (w : gW) : Option (Int32 × gW) :=
  itr (fun rec (q : Nat × Int32 × gW) => f_M_payer_b70 N rec q.1 q.2.1 q.2.2) N (a0, a3, w)
def f_M_payer_b0 (N : Nat) (a0 : Nat) (a1 : Int32) (a2 : Int32) (w : gW) : Option (Int32 × gW) :=
  gd ((sh w a0).1 = 12) <|
  kl (f_M_in N a0 a1 0 6 w) fun x1 w2 =>
  cd (x1 = 0) (
  some ((-1), w2)) <|
    gd ((sh w2 a0).1 = 12) <|
    kl (f_M_in N a0 a2 0 9 w2) fun x5 w6 =>
    cd (x5 = 0) (
    some ((-2), w6)) <|
      gd ((sh w6 a0).1 = 12) <|
      bd (gI w6 a0 0) fun x10 =>
      cd (x10 = 4) (
      some ((-4), w6)) <|
        rr (gR w6 a0 2) fun x11 =>
        bd (gI w6 a0 0) fun x13 =>
        gd ((sh w6 x11).1 = 50) <|
        gd (¬ (x13 < 0 ∨ (sh w6 x11).2 ≤ x13.toNatClampNeg)) <|
        bd (sI w6 x11 x13.toNatClampNeg a1) fun w16 =>
        gd ((sh w16 a0).1 = 12) <|
        rr (gR w16 a0 3) fun x18 =>
        bd (gI w16 a0 0) fun x20 =>
        gd ((sh w16 x18).1 = 50) <|
        gd (¬ (x20 < 0 ∨ (sh w16 x18).2 ≤ x20.toNatClampNeg)) <|
        bd (sI w16 x18 x20.toNatClampNeg a2) fun w23 =>
        gd ((sh w23 a0).1 = 12) <|
        rr (gR w23 a0 4) fun x25 =>
        bd (gI w23 a0 0) fun x27 =>
        gd ((sh w23 x25).1 = 50) <|
        gd (¬ (x27 < 0 ∨ (sh w23 x25).2 ≤ x27.toNatClampNeg)) <|
        bd (sI w23 x25 x27.toNatClampNeg 0) fun w30 =>
        f_M_payer_l70 N a0 0 w30
def f_M_payer (N : Nat) (a0 : Nat) (a1 : Int32) (a2 : Int32) (w : gW) : Option (Int32 × gW) := f_M_payer_b0 N a0 a1 a2 w
def f_M_purse_b0 (N : Nat) (a0 : Nat) (a1 : Int32) (a2 : Int32) (a3 : Int32) (w : gW) : Option (Int32 × gW) :=
  gd ((sh w a0).1 = 12) <|
  kl (f_M_isPayer N a0 a1 w) fun x1 w2 =>
  cd (x1 = 0) (
    some ((-1), w2)) <|
  gd ((sh w2 a0).1 = 12) <|
  kl (f_M_isSort N a0 a2 w2) fun x5 w6 =>
  cd (x5 = 0) (
  some ((-1), w6)) <|
    gd ((sh w6 a0).1 = 12) <|
    kl (f_M_in N a0 a3 0 99 w6) fun x9 w10 =>
    cd (x9 = 0) (
    some ((-2), w10)) <|
      gd ((sh w10 a0).1 = 12) <|
      rr (gR w10 a0 6) fun x14 =>
      bd (6 * a1) fun x16 =>
      bd (x16 + a2) fun x17 =>
      gd ((sh w10 x14).1 = 50) <|
      gd (¬ (x17 < 0 ∨ (sh w10 x14).2 ≤ x17.toNatClampNeg)) <|
      bd (gI w10 x14 x17.toNatClampNeg) fun x20 =>
      bd (6 * a1) fun x21 =>
      bd (x21 + a2) fun x22 =>
      gd (¬ (x22 < 0 ∨ (sh w10 x14).2 ≤ x22.toNatClampNeg)) <|
      bd (sI w10 x14 x22.toNatClampNeg a3) fun w24 =>
      some (x20, w24)
def f_M_purse (N : Nat) (a0 : Nat) (a1 : Int32) (a2 : Int32) (a3 : Int32) (w : gW) : Option (Int32 × gW) := f_M_purse_b0 N a0 a1 a2 a3 w
def f_M_till_b0 (N : Nat) (a0 : Nat) (a1 : Int32) (a2 : Int32) (w : gW) : Option (Int32 × gW) :=
  gd ((sh w a0).1 = 12) <|
  kl (f_M_isSort N a0 a1 w) fun x1 w2 =>
  cd (x1 = 0) (
  some ((-1), w2)) <|
    gd ((sh w2 a0).1 = 12) <|
    kl (f_M_in N a0 a2 0 99 w2) fun x5 w6 =>
    cd (x5 = 0) (
    some ((-2), w6)) <|
      gd ((sh w6 a0).1 = 12) <|
      rr (gR w6 a0 7) fun x10 =>
      gd ((sh w6 x10).1 = 50) <|
      gd (¬ (a1 < 0 ∨ (sh w6 x10).2 ≤ a1.toNatClampNeg)) <|
      bd (gI w6 x10 a1.toNatClampNeg) fun x14 =>
      bd (sI w6 x10 a1.toNatClampNeg a2) fun w15 =>
      some (x14, w15)
def f_M_till (N : Nat) (a0 : Nat) (a1 : Int32) (a2 : Int32) (w : gW) : Option (Int32 × gW) := f_M_till_b0 N a0 a1 a2 w
def f_M_row_b0 (N : Nat) (a0 : Nat) (a1 : Int32) (a2 : Int32) (a3 : Int32) (w : gW) : Option (Int32 × gW) :=
  gd ((sh w a0).1 = 12) <|
  kl (f_M_isPayer N a0 a1 w) fun x1 w2 =>
  cd (x1 = 0) (
    some ((-1), w2)) <|
  gd ((sh w2 a0).1 = 12) <|
  kl (f_M_in N a0 a2 0 3 w2) fun x5 w6 =>
  cd (x5 = 0) (
  some ((-1), w6)) <|
    gd ((sh w6 a0).1 = 12) <|
    kl (f_M_isSort N a0 a3 w6) fun x9 w10 =>
    cd (x9 = 0) (
    some ((-2), w10)) <|
      gd ((sh w10 a0).1 = 12) <|
      rr (gR w10 a0 2) fun x14 =>
      gd ((sh w10 x14).1 = 50) <|
      gd (¬ (a1 < 0 ∨ (sh w10 x14).2 ≤ a1.toNatClampNeg)) <|
      bd (gI w10 x14 a1.toNatClampNeg) fun x18 =>
      cd (x18 = 6) (
        rr (gR w10 a0 5) fun x19 =>
        bd (4 * a1) fun x21 =>
        bd (x21 + a2) fun x22 =>
        gd ((sh w10 x19).1 = 50) <|
        gd (¬ (x22 < 0 ∨ (sh w10 x19).2 ≤ x22.toNatClampNeg)) <|
        bd (gI w10 x19 x22.toNatClampNeg) fun x25 =>
        bd (4 * a1) fun x26 =>
        bd (x26 + a2) fun x27 =>
        gd (¬ (x27 < 0 ∨ (sh w10 x19).2 ≤ x27.toNatClampNeg)) <|
        bd (sI w10 x19 x27.toNatClampNeg a3) fun w29 =>
        some (x25, w29)) <|
      some ((-3), w10)
def f_M_row (N : Nat) (a0 : Nat) (a1 : Int32) (a2 : Int32) (a3 : Int32) (w : gW) : Option (Int32 × gW) := f_M_row_b0 N a0 a1 a2 a3 w
def f_M_feed_b0 (N : Nat) (a0 : Nat) (a1 : Int32) (w : gW) : Option (Int32 × gW) :=
  gd ((sh w a0).1 = 12) <|
  kl (f_M_in N a0 a1 0 127 w) fun x1 w2 =>
  cd (x1 = 0) (
  some ((-2), w2)) <|
    gd ((sh w2 a0).1 = 12) <|
    bd (gI w2 a0 10) fun x6 =>
    cd (x6 = 100) (
    some ((-4), w2)) <|
      rr (gR w2 a0 13) fun x7 =>
      bd (gI w2 a0 10) fun x9 =>
      gd ((sh w2 x7).1 = 50) <|
      gd (¬ (x9 < 0 ∨ (sh w2 x7).2 ≤ x9.toNatClampNeg)) <|
      bd (sI w2 x7 x9.toNatClampNeg a1) fun w12 =>
      gd ((sh w12 a0).1 = 12) <|
      bd (gI w12 a0 10) fun x14 =>
      bd (x14 + 1) fun x15 =>
      bd (sI w12 a0 10 x15) fun w16 =>
      gd ((sh w16 a0).1 = 12) <|
      bd (gI w16 a0 10) fun x18 =>
      some (x18, w16)
def f_M_feed (N : Nat) (a0 : Nat) (a1 : Int32) (w : gW) : Option (Int32 × gW) := f_M_feed_b0 N a0 a1 w
def f_M_peek_b0 (N : Nat) (a0 : Nat) (w : gW) : Option (Int32 × gW) :=
  gd ((sh w a0).1 = 12) <|
  bd (gI w a0 11) fun x2 =>
  bd (gI w a0 10) fun x3 =>
  cd (x3 ≤ x2) (
    some ((-1), w)) <|
  rr (gR w a0 13) fun x4 =>
  bd (gI w a0 11) fun x6 =>
  gd ((sh w x4).1 = 50) <|
  gd (¬ (x6 < 0 ∨ (sh w x4).2 ≤ x6.toNatClampNeg)) <|
  bd (gI w x4 x6.toNatClampNeg) fun x9 =>
  some (x9, w)
def f_M_peek (N : Nat) (a0 : Nat) (w : gW) : Option (Int32 × gW) := f_M_peek_b0 N a0 w
def f_M_takes_b0 (N : Nat) (a0 : Nat) (a1 : Int32) (w : gW) : Option (Int32 × gW) :=
  gd ((sh w a0).1 = 12) <|
  kl (f_M_peek N a0 w) fun x1 w2 =>
  cd (x1 = a1) (
    gd ((sh w2 a0).1 = 12) <|
    bd (gI w2 a0 11) fun x6 =>
    bd (x6 + 1) fun x7 =>
    bd (sI w2 a0 11 x7) fun w8 =>
    some (1, w8)) <|
  some (0, w2)
def f_M_takes (N : Nat) (a0 : Nat) (a1 : Int32) (w : gW) : Option (Int32 × gW) := f_M_takes_b0 N a0 a1 w
def f_M_takesWord_b2 (N : Nat) (rec2 : Nat × Int32 × Int32 × Int32 × gW → Option (Int32 × gW)) (a0 : Nat) (a1 : Int32) (a2 : Int32) (a3 : Int32) (w : gW) : Option (Int32 × gW) :=
  cd (a2 ≤ a3) (
    gd ((sh w a0).1 = 12) <|
    kl (f_M_takes N a0 32 w) fun x1 w2 =>
    gd (x1 = 0 ∨ x1 = 1) <|
    some (x1, w2)) <|
  gd ((sh w a0).1 = 12) <|
  rr (gR w a0 24) fun x7 =>
  bd (a1 + a3) fun x9 =>
  gd ((sh w x7).1 = 50) <|
  gd (¬ (x9 < 0 ∨ (sh w x7).2 ≤ x9.toNatClampNeg)) <|
  bd (gI w x7 x9.toNatClampNeg) fun x12 =>
  kl (f_M_takes N a0 x12 w) fun x13 w14 =>
  cd (x13 = 0) (
  some (0, w14)) <|
    bd (a3 + 1) fun x16 =>
    rec2 (a0, a1, a2, x16, w14)
def f_M_takesWord_l2 (N : Nat) (a0 : Nat) (a1 : Int32) (a2 : Int32) (a3 : Int32) (w : gW) : Option (Int32 × gW) :=
  itr (fun rec (q : Nat × Int32 × Int32 × Int32 × gW) => f_M_takesWord_b2 N rec q.1 q.2.1 q.2.2.1 q.2.2.2.1 q.2.2.2.2) N (a0, a1, a2, a3, w)
def f_M_takesWord_b0 (N : Nat) (a0 : Nat) (a1 : Int32) (a2 : Int32) (w : gW) : Option (Int32 × gW) :=
  f_M_takesWord_l2 N a0 a1 a2 0 w
def f_M_takesWord (N : Nat) (a0 : Nat) (a1 : Int32) (a2 : Int32) (w : gW) : Option (Int32 × gW) := f_M_takesWord_b0 N a0 a1 a2 w
def f_M_isDigit_b0 (N : Nat) (a0 : Nat) (w : gW) : Option (Int32 × gW) :=
  gd ((sh w a0).1 = 12) <|
  kl (f_M_peek N a0 w) fun x1 w2 =>
  gd ((sh w2 a0).1 = 12) <|
  kl (f_M_in N a0 x1 48 57 w2) fun x5 w6 =>
  gd (x5 = 0 ∨ x5 = 1) <|
  some (x5, w6)
def f_M_isDigit (N : Nat) (a0 : Nat) (w : gW) : Option (Int32 × gW) := f_M_isDigit_b0 N a0 w
def f_M_takesNumber_b16 (N : Nat) (rec16 : Nat × Int32 × gW → Option (Int32 × gW)) (a0 : Nat) (a1 : Int32) (w : gW) : Option (Int32 × gW) :=
  cd ((2 : Int32) ≤ a1) (
    some (1, w)) <|
  gd ((sh w a0).1 = 12) <|
  kl (f_M_isDigit N a0 w) fun x7 w8 =>
  cd (x7 = 0) (
    some (1, w8)) <|
  gd ((sh w8 a0).1 = 12) <|
  bd (gI w8 a0 12) fun x12 =>
  bd (10 * x12) fun x13 =>
  kl (f_M_peek N a0 w8) fun x14 w15 =>
  bd (x13 + x14) fun x17 =>
  bd (x17 - 48) fun x18 =>
  gd ((sh w15 a0).1 = 12) <|
  bd (sI w15 a0 12 x18) fun w20 =>
  gd ((sh w20 a0).1 = 12) <|
  bd (gI w20 a0 11) fun x22 =>
  bd (x22 + 1) fun x23 =>
  bd (sI w20 a0 11 x23) fun w24 =>
  bd (a1 + 1) fun x25 =>
  rec16 (a0, x25, w24)
def f_M_takesNumber_l16 (N : Nat) (a0 : Nat) (a1 : Int32) (w : gW) : Option (Int32 × gW) :=
  itr (fun rec (q : Nat × Int32 × gW) => f_M_takesNumber_b16 N rec q.1 q.2.1 q.2.2) N (a0, a1, w)
def f_M_takesNumber_b0 (N : Nat) (a0 : Nat) (w : gW) : Option (Int32 × gW) :=
  gd ((sh w a0).1 = 12) <|
  kl (f_M_isDigit N a0 w) fun x1 w2 =>
  cd (x1 = 0) (
  some (0, w2)) <|
    gd ((sh w2 a0).1 = 12) <|
    bd (sI w2 a0 12 0) fun w6 =>
    f_M_takesNumber_l16 N a0 0 w6
def f_M_takesNumber (N : Nat) (a0 : Nat) (w : gW) : Option (Int32 × gW) := f_M_takesNumber_b0 N a0 w
def f_M_emits_b0 (N : Nat) (a0 : Nat) (a1 : Int32) (w : gW) : Option (Unit × gW) :=
  gd ((sh w a0).1 = 12) <|
  rr (gR w a0 19) fun x2 =>
  bd (gI w a0 21) fun x4 =>
  gd ((sh w x2).1 = 50) <|
  gd (¬ (x4 < 0 ∨ (sh w x2).2 ≤ x4.toNatClampNeg)) <|
  bd (sI w x2 x4.toNatClampNeg a1) fun w7 =>
  gd ((sh w7 a0).1 = 12) <|
  bd (gI w7 a0 21) fun x9 =>
  bd (x9 + 1) fun x10 =>
  bd (sI w7 a0 21 x10) fun w11 =>
  some ((), w11)
def f_M_emits (N : Nat) (a0 : Nat) (a1 : Int32) (w : gW) : Option (Unit × gW) := f_M_emits_b0 N a0 a1 w
def f_M_whole_b0 (N : Nat) (rec0 : Nat × gW → Option (Unit × gW)) (a0 : Nat) (w : gW) : Option (Unit × gW) :=
  gd ((sh w a0).1 = 12) <|
  bd (gI w a0 22) fun x2 =>
  cd (x2 ≤ 0) (
    some ((), w)) <|
  rr (gR w a0 20) fun x3 =>
  bd (gI w a0 22) fun x5 =>
  bd (x5 - 1) fun x6 =>
  gd ((sh w x3).1 = 50) <|
  gd (¬ (x6 < 0 ∨ (sh w x3).2 ≤ x6.toNatClampNeg)) <|
  bd (gI w x3 x6.toNatClampNeg) fun x9 =>
  cd (x9 = 33) (
  kl (f_M_emits N a0 (-33) w) fun x10 w11 =>
  gd ((sh w11 a0).1 = 12) <|
  bd (gI w11 a0 22) fun x14 =>
  bd (x14 - 1) fun x15 =>
  bd (sI w11 a0 22 x15) fun w16 =>
  gd ((sh w16 a0).1 = 12) <|
  bd (gI w16 a0 23) fun x18 =>
  bd (x18 - 1) fun x19 =>
  bd (sI w16 a0 23 x19) fun w20 =>
  rec0 (a0, w20)) <|
    some ((), w)
def f_M_whole_l0 (N : Nat) (a0 : Nat) (w : gW) : Option (Unit × gW) :=
  itr (fun rec (q : Nat × gW) => f_M_whole_b0 N rec q.1 q.2) N (a0, w)
def f_M_whole (N : Nat) (a0 : Nat) (w : gW) : Option (Unit × gW) := f_M_whole_l0 N a0 w
def f_M_settle_b45 (N : Nat) (rec0 : Nat × Int32 × gW → Option (Unit × gW)) (a0 : Nat) (a1 : Int32) (w : gW) : Option (Unit × gW) :=
  gd ((sh w a0).1 = 12) <|
  bd (gI w a0 22) fun x11 =>
  bd (x11 - 1) fun x12 =>
  bd (sI w a0 22 x12) fun w13 =>
  gd ((sh w13 a0).1 = 12) <|
  rr (gR w13 a0 20) fun x15 =>
  bd (gI w13 a0 22) fun x17 =>
  gd ((sh w13 x15).1 = 50) <|
  gd (¬ (x17 < 0 ∨ (sh w13 x15).2 ≤ x17.toNatClampNeg)) <|
  bd (gI w13 x15 x17.toNatClampNeg) fun x20 =>
  bd (-x20) fun x21 =>
  kl (f_M_emits N a0 x21 w13) fun x22 w23 =>
  rec0 (a0, a1, w23)
def f_M_settle_b0 (N : Nat) (rec0 : Nat × Int32 × gW → Option (Unit × gW)) (a0 : Nat) (a1 : Int32) (w : gW) : Option (Unit × gW) :=
  gd ((sh w a0).1 = 12) <|
  bd (gI w a0 22) fun x2 =>
  cd (x2 ≤ 0) (
    some ((), w)) <|
  rr (gR w a0 20) fun x3 =>
  bd (gI w a0 22) fun x5 =>
  bd (x5 - 1) fun x6 =>
  gd ((sh w x3).1 = 50) <|
  gd (¬ (x6 < 0 ∨ (sh w x3).2 ≤ x6.toNatClampNeg)) <|
  bd (gI w x3 x6.toNatClampNeg) fun x9 =>
  cd (x9 = 38) (
    f_M_settle_b45 N rec0 a0 a1 w) <|
  bd (gI w a0 22) fun x25 =>
  bd (x25 - 1) fun x26 =>
  gd (¬ (x26 < 0 ∨ (sh w x3).2 ≤ x26.toNatClampNeg)) <|
  bd (gI w x3 x26.toNatClampNeg) fun x28 =>
  cd (x28 = 124) (
  cd (a1 = 38) (
    some ((), w)) <|
  f_M_settle_b45 N rec0 a0 a1 w) <|
    some ((), w)
def f_M_settle_l0 (N : Nat) (a0 : Nat) (a1 : Int32) (w : gW) : Option (Unit × gW) :=
  itr (fun rec (q : Nat × Int32 × gW) => f_M_settle_b0 N rec q.1 q.2.1 q.2.2) N (a0, a1, w)
def f_M_settle (N : Nat) (a0 : Nat) (a1 : Int32) (w : gW) : Option (Unit × gW) := f_M_settle_l0 N a0 a1 w
def f_M_place_b0 (N : Nat) (a1 : Int32) (w : gW) : Option (Int32 × gW) :=
  cd (a1 = 100) (
    some (5, w)) <|
  cd (a1 = 107) (
    some (4, w)) <|
  cd (a1 = 112) (
    some (3, w)) <|
  cd (a1 = 115) (
    some (0, w)) <|
  cd (a1 = 116) (
    some (2, w)) <|
  cd (a1 = 119) (
    some (1, w)) <|
  some ((-1), w)
def f_M_place (N : Nat) (a0 : Nat) (a1 : Int32) (w : gW) : Option (Int32 × gW) := f_M_place_b0 N a1 w
def f_M_takesTest_b0 (N : Nat) (a0 : Nat) (w : gW) : Option (Int32 × gW) :=
  gd ((sh w a0).1 = 12) <|
  kl (f_M_peek N a0 w) fun x1 w2 =>
  gd ((sh w2 a0).1 = 12) <|
  kl (f_M_place N a0 x1 w2) fun x5 w6 =>
  cd ((0 : Int32) ≤ x5) (
    gd ((sh w6 a0).1 = 12) <|
    bd (gI w6 a0 11) fun x10 =>
    bd (x10 + 1) fun x11 =>
    bd (sI w6 a0 11 x11) fun w12 =>
    gd ((sh w12 a0).1 = 12) <|
    kl (f_M_peek N a0 w12) fun x13 w14 =>
    gd ((sh w14 a0).1 = 12) <|
    kl (f_M_in N a0 x13 60 62 w14) fun x17 w18 =>
    cd (x17 = 0) (
    some (0, w18)) <|
      gd ((sh w18 a0).1 = 12) <|
      bd (gI w18 a0 11) fun x22 =>
      bd (x22 + 1) fun x23 =>
      bd (sI w18 a0 11 x23) fun w24 =>
      gd ((sh w24 a0).1 = 12) <|
      kl (f_M_takesNumber N a0 w24) fun x25 w26 =>
      cd (x25 = 0) (
      some (0, w26)) <|
        bd (1000 * x5) fun x29 =>
        bd (x13 - 60) fun x30 =>
        bd (100 * x30) fun x31 =>
        bd (x29 + x31) fun x32 =>
        gd ((sh w26 a0).1 = 12) <|
        bd (gI w26 a0 12) fun x34 =>
        bd (x32 + x34) fun x35 =>
        kl (f_M_emits N a0 x35 w26) fun x36 w37 =>
        gd ((sh w37 a0).1 = 12) <|
        kl (f_M_whole N a0 w37) fun x39 w40 =>
        some (1, w40)) <|
  some (0, w6)
def f_M_takesTest (N : Nat) (a0 : Nat) (w : gW) : Option (Int32 × gW) := f_M_takesTest_b0 N a0 w
def f_M_takesE_b122 (N : Nat) (rec22 : Nat × Int32 × Int32 × gW → Option (Int32 × gW)) (a0 : Nat) (a1 : Int32) (a3 : Int32) (w : gW) : Option (Int32 × gW) :=
  gd ((sh w a0).1 = 12) <|
  kl (f_M_settle N a0 a3 w) fun x16 w17 =>
  gd ((sh w17 a0).1 = 12) <|
  rr (gR w17 a0 20) fun x21 =>
  bd (gI w17 a0 22) fun x23 =>
  gd ((sh w17 x21).1 = 50) <|
  gd (¬ (x23 < 0 ∨ (sh w17 x21).2 ≤ x23.toNatClampNeg)) <|
  bd (sI w17 x21 x23.toNatClampNeg a3) fun w26 =>
  gd ((sh w26 a0).1 = 12) <|
  bd (gI w26 a0 22) fun x28 =>
  bd (x28 + 1) fun x29 =>
  bd (sI w26 a0 22 x29) fun w30 =>
  gd ((sh w30 a0).1 = 12) <|
  bd (gI w30 a0 11) fun x32 =>
  bd (x32 + 1) fun x33 =>
  bd (sI w30 a0 11 x33) fun w34 =>
  rec22 (a0, a1, 1, w34)
def f_M_takesE_b43 (N : Nat) (rec22 : Nat × Int32 × Int32 × gW → Option (Int32 × gW)) (a0 : Nat) (a1 : Int32) (a2 : Int32) (a3 : Int32) (w : gW) : Option (Int32 × gW) :=
  gd ((sh w a0).1 = 12) <|
  bd (gI w a0 23) fun x64 =>
  cd (x64 = 4) (
  some (0, w)) <|
    bd (gI w a0 23) fun x65 =>
    bd (x65 + 1) fun x66 =>
    bd (sI w a0 23 x66) fun w67 =>
    gd ((sh w67 a0).1 = 12) <|
    rr (gR w67 a0 20) fun x69 =>
    bd (gI w67 a0 22) fun x71 =>
    gd ((sh w67 x69).1 = 50) <|
    gd (¬ (x71 < 0 ∨ (sh w67 x69).2 ≤ x71.toNatClampNeg)) <|
    bd (sI w67 x69 x71.toNatClampNeg a3) fun w74 =>
    gd ((sh w74 a0).1 = 12) <|
    bd (gI w74 a0 22) fun x76 =>
    bd (x76 + 1) fun x77 =>
    bd (sI w74 a0 22 x77) fun w78 =>
    gd ((sh w78 a0).1 = 12) <|
    bd (gI w78 a0 11) fun x80 =>
    bd (x80 + 1) fun x81 =>
    bd (sI w78 a0 11 x81) fun w82 =>
    rec22 (a0, a1, a2, w82)
def f_M_takesE_b22 (N : Nat) (rec22 : Nat × Int32 × Int32 × gW → Option (Int32 × gW)) (a0 : Nat) (a1 : Int32) (a2 : Int32) (w : gW) : Option (Int32 × gW) :=
  gd ((sh w a0).1 = 12) <|
  kl (f_M_peek N a0 w) fun x12 w13 =>
  cd (a2 = 0) (
    cd (x12 = 38) (
      f_M_takesE_b122 N rec22 a0 a1 x12 w13) <|
    cd (x12 = 124) (
    f_M_takesE_b122 N rec22 a0 a1 x12 w13) <|
      gd ((sh w13 a0).1 = 12) <|
      kl (f_M_settle N a0 124 w13) fun x35 w36 =>
      gd ((sh w36 a0).1 = 12) <|
      rr (gR w36 a0 18) fun x40 =>
      bd (gI w36 a0 21) fun x42 =>
      gd ((sh w36 x40).1 = 50) <|
      gd (¬ (a1 < 0 ∨ (sh w36 x40).2 ≤ a1.toNatClampNeg)) <|
      bd (sI w36 x40 a1.toNatClampNeg x42) fun w45 =>
      gd ((sh w45 a0).1 = 12) <|
      bd (gI w45 a0 22) fun x47 =>
      cd (x47 = 0) (
      some (1, w45)) <|
        cd (x12 = 41) (
          bd (gI w45 a0 22) fun x48 =>
          bd (x48 - 1) fun x49 =>
          bd (sI w45 a0 22 x49) fun w50 =>
          gd ((sh w50 a0).1 = 12) <|
          bd (gI w50 a0 23) fun x52 =>
          bd (x52 - 1) fun x53 =>
          bd (sI w50 a0 23 x53) fun w54 =>
          gd ((sh w54 a0).1 = 12) <|
          bd (gI w54 a0 11) fun x56 =>
          bd (x56 + 1) fun x57 =>
          bd (sI w54 a0 11 x57) fun w58 =>
          gd ((sh w58 a0).1 = 12) <|
          kl (f_M_whole N a0 w58) fun x59 w60 =>
          rec22 (a0, a1, a2, w60)) <|
        some (0, w45)) <|
  cd (x12 = 33) (
    f_M_takesE_b43 N rec22 a0 a1 a2 x12 w13) <|
  cd (x12 = 40) (
  f_M_takesE_b43 N rec22 a0 a1 a2 x12 w13) <|
    gd ((sh w13 a0).1 = 12) <|
    kl (f_M_takesTest N a0 w13) fun x83 w84 =>
    cd (x83 = 0) (
      some (0, w84)) <|
    rec22 (a0, a1, 0, w84)
def f_M_takesE_l22 (N : Nat) (a0 : Nat) (a1 : Int32) (a2 : Int32) (w : gW) : Option (Int32 × gW) :=
  itr (fun rec (q : Nat × Int32 × Int32 × gW) => f_M_takesE_b22 N rec q.1 q.2.1 q.2.2.1 q.2.2.2) N (a0, a1, a2, w)
def f_M_takesE_b0 (N : Nat) (a0 : Nat) (a1 : Int32) (w : gW) : Option (Int32 × gW) :=
  gd ((sh w a0).1 = 12) <|
  bd (sI w a0 22 0) fun w2 =>
  gd ((sh w2 a0).1 = 12) <|
  bd (sI w2 a0 23 0) fun w4 =>
  gd ((sh w4 a0).1 = 12) <|
  rr (gR w4 a0 17) fun x6 =>
  bd (gI w4 a0 21) fun x8 =>
  gd ((sh w4 x6).1 = 50) <|
  gd (¬ (a1 < 0 ∨ (sh w4 x6).2 ≤ a1.toNatClampNeg)) <|
  bd (sI w4 x6 a1.toNatClampNeg x8) fun w11 =>
  f_M_takesE_l22 N a0 a1 1 w11
def f_M_takesE (N : Nat) (a0 : Nat) (a1 : Int32) (w : gW) : Option (Int32 × gW) := f_M_takesE_b0 N a0 a1 w
def f_M_takesHead_b0 (N : Nat) (a0 : Nat) (a1 : Int32) (w : gW) : Option (Int32 × gW) :=
  gd ((sh w a0).1 = 12) <|
  kl (f_M_peek N a0 w) fun x1 w2 =>
  cd (x1 = 104) (
    gd ((sh w2 a0).1 = 12) <|
    rr (gR w2 a0 15) fun x7 =>
    gd ((sh w2 x7).1 = 50) <|
    gd (¬ (a1 < 0 ∨ (sh w2 x7).2 ≤ a1.toNatClampNeg)) <|
    bd (sI w2 x7 a1.toNatClampNeg 0) fun w11 =>
    gd ((sh w11 a0).1 = 12) <|
    kl (f_M_takesWord N a0 0 4 w11) fun x12 w13 =>
    gd (x12 = 0 ∨ x12 = 1) <|
    some (x12, w13)) <|
  cd (x1 = 107) (
    gd ((sh w2 a0).1 = 12) <|
    rr (gR w2 a0 15) fun x19 =>
    gd ((sh w2 x19).1 = 50) <|
    gd (¬ (a1 < 0 ∨ (sh w2 x19).2 ≤ a1.toNatClampNeg)) <|
    bd (sI w2 x19 a1.toNatClampNeg 1) fun w23 =>
    gd ((sh w23 a0).1 = 12) <|
    kl (f_M_takesWord N a0 4 4 w23) fun x24 w25 =>
    gd (x24 = 0 ∨ x24 = 1) <|
    some (x24, w25)) <|
  gd ((sh w2 a0).1 = 12) <|
  rr (gR w2 a0 15) fun x30 =>
  gd ((sh w2 x30).1 = 50) <|
  gd (¬ (a1 < 0 ∨ (sh w2 x30).2 ≤ a1.toNatClampNeg)) <|
  bd (sI w2 x30 a1.toNatClampNeg 2) fun w34 =>
  gd ((sh w34 a0).1 = 12) <|
  kl (f_M_takesWord N a0 8 4 w34) fun x35 w36 =>
  gd (x35 = 0 ∨ x35 = 1) <|
  some (x35, w36)
def f_M_takesHead (N : Nat) (a0 : Nat) (a1 : Int32) (w : gW) : Option (Int32 × gW) := f_M_takesHead_b0 N a0 a1 w
def f_M_takesClause_b0 (N : Nat) (a0 : Nat) (a1 : Int32) (w : gW) : Option (Int32 × gW) :=
  gd ((sh w a0).1 = 12) <|
  kl (f_M_takesHead N a0 a1 w) fun x1 w2 =>
  cd (x1 = 0) (
    some (0, w2)) <|
  gd ((sh w2 a0).1 = 12) <|
  kl (f_M_takesNumber N a0 w2) fun x5 w6 =>
  cd (x5 = 0) (
  some (0, w6)) <|
    gd ((sh w6 a0).1 = 12) <|
    rr (gR w6 a0 16) fun x10 =>
    bd (gI w6 a0 12) fun x12 =>
    gd ((sh w6 x10).1 = 50) <|
    gd (¬ (a1 < 0 ∨ (sh w6 x10).2 ≤ a1.toNatClampNeg)) <|
    bd (sI w6 x10 a1.toNatClampNeg x12) fun w15 =>
    gd ((sh w15 a0).1 = 12) <|
    rr (gR w15 a0 15) fun x17 =>
    gd ((sh w15 x17).1 = 50) <|
    gd (¬ (a1 < 0 ∨ (sh w15 x17).2 ≤ a1.toNatClampNeg)) <|
    bd (gI w15 x17 a1.toNatClampNeg) fun x21 =>
    cd (x21 = 2) (
      some (1, w15)) <|
    kl (f_M_takes N a0 32 w15) fun x22 w23 =>
    cd (x22 = 0) (
      some (0, w23)) <|
    gd ((sh w23 a0).1 = 12) <|
    kl (f_M_takesE N a0 a1 w23) fun x25 w26 =>
    cd (x25 = 0) (
      some (0, w26)) <|
    some (1, w26)
def f_M_takesClause (N : Nat) (a0 : Nat) (a1 : Int32) (w : gW) : Option (Int32 × gW) := f_M_takesClause_b0 N a0 a1 w
def f_M_goesText_b15 (N : Nat) (rec15 : Nat × Int32 × Int32 × gW → Option (Int32 × gW)) (a0 : Nat) (a1 : Int32) (a2 : Int32) (w : gW) : Option (Int32 × gW) :=
  bd (10 * a1) fun x6 =>
  bd (x6 + a2) fun x7 =>
  gd ((sh w a0).1 = 12) <|
  kl (f_M_takesClause N a0 x7 w) fun x8 w9 =>
  cd (x8 = 0) (
  some (0, w9)) <|
    bd (a2 + 1) fun x12 =>
    gd ((sh w9 a0).1 = 12) <|
    rr (gR w9 a0 14) fun x14 =>
    gd ((sh w9 x14).1 = 50) <|
    gd (¬ (a1 < 0 ∨ (sh w9 x14).2 ≤ a1.toNatClampNeg)) <|
    bd (sI w9 x14 a1.toNatClampNeg x12) fun w18 =>
    gd ((sh w18 a0).1 = 12) <|
    bd (gI w18 a0 11) fun x20 =>
    bd (gI w18 a0 10) fun x21 =>
    cd (x20 = x21) (
    some (1, w18)) <|
      cd (x12 = 10) (
        some (0, w18)) <|
      kl (f_M_takes N a0 59 w18) fun x22 w23 =>
      cd (x22 = 0) (
      some (0, w23)) <|
        rec15 (a0, a1, x12, w23)
def f_M_goesText_l15 (N : Nat) (a0 : Nat) (a1 : Int32) (a2 : Int32) (w : gW) : Option (Int32 × gW) :=
  itr (fun rec (q : Nat × Int32 × Int32 × gW) => f_M_goesText_b15 N rec q.1 q.2.1 q.2.2.1 q.2.2.2) N (a0, a1, a2, w)
def f_M_goesText_b0 (N : Nat) (a0 : Nat) (a1 : Int32) (w : gW) : Option (Int32 × gW) :=
  gd ((sh w a0).1 = 12) <|
  bd (sI w a0 11 0) fun w2 =>
  bd (100 * a1) fun x3 =>
  gd ((sh w2 a0).1 = 12) <|
  bd (sI w2 a0 21 x3) fun w5 =>
  f_M_goesText_l15 N a0 a1 0 w5
def f_M_goesText (N : Nat) (a0 : Nat) (a1 : Int32) (w : gW) : Option (Int32 × gW) := f_M_goesText_b0 N a0 a1 w
def f_M_town_b0 (N : Nat) (a0 : Nat) (w : gW) : Option (Int32 × gW) :=
  gd ((sh w a0).1 = 12) <|
  bd (gI w a0 8) fun x2 =>
  cd (x2 = 6) (
  some ((-4), w)) <|
    bd (gI w a0 8) fun x3 =>
    kl (f_M_goesText N a0 x3 w) fun x4 w5 =>
    gd ((sh w5 a0).1 = 12) <|
    bd (sI w5 a0 10 0) fun w8 =>
    cd (x4 = 0) (
    gd ((sh w8 a0).1 = 12) <|
    bd (gI w8 a0 11) fun x19 =>
    bd ((-10) - x19) fun x20 =>
    some (x20, w8)) <|
      gd ((sh w8 a0).1 = 12) <|
      bd (gI w8 a0 8) fun x10 =>
      bd (sI w8 a0 9 x10) fun w11 =>
      gd ((sh w11 a0).1 = 12) <|
      bd (gI w11 a0 8) fun x13 =>
      bd (x13 + 1) fun x14 =>
      bd (sI w11 a0 8 x14) fun w15 =>
      gd ((sh w15 a0).1 = 12) <|
      bd (gI w15 a0 9) fun x17 =>
      some (x17, w15)
def f_M_town (N : Nat) (a0 : Nat) (w : gW) : Option (Int32 × gW) := f_M_town_b0 N a0 w
def f_M_begin_b0 (N : Nat) (a0 : Nat) (w : gW) : Option (Int32 × gW) :=
  gd ((sh w a0).1 = 12) <|
  bd (gI w a0 9) fun x2 =>
  cd ((0 : Int32) ≤ x2) (
    bd (gI w a0 9) fun x3 =>
    bd (10 * x3) fun x4 =>
    some (x4, w)) <|
  some (0, w)
def f_M_begin (N : Nat) (a0 : Nat) (w : gW) : Option (Int32 × gW) := f_M_begin_b0 N a0 w
def f_M_behindText_b0 (N : Nat) (a0 : Nat) (w : gW) : Option (Int32 × gW) :=
  gd ((sh w a0).1 = 12) <|
  bd (gI w a0 9) fun x2 =>
  cd ((0 : Int32) ≤ x2) (
    bd (gI w a0 9) fun x3 =>
    bd (10 * x3) fun x4 =>
    rr (gR w a0 14) fun x5 =>
    bd (gI w a0 9) fun x7 =>
    gd ((sh w x5).1 = 50) <|
    gd (¬ (x7 < 0 ∨ (sh w x5).2 ≤ x7.toNatClampNeg)) <|
    bd (gI w x5 x7.toNatClampNeg) fun x10 =>
    bd (x4 + x10) fun x11 =>
    some (x11, w)) <|
  some (0, w)
def f_M_behindText (N : Nat) (a0 : Nat) (w : gW) : Option (Int32 × gW) := f_M_behindText_b0 N a0 w
def f_M_mostNow_b7 (N : Nat) (rec7 : Nat × Int32 × Int32 × gW → Option (Int32 × gW)) (a0 : Nat) (a1 : Int32) (a2 : Int32) (w : gW) : Option (Int32 × gW) :=
  gd ((sh w a0).1 = 12) <|
  kl (f_M_behindText N a0 w) fun x5 w6 =>
  cd (x5 ≤ a2) (
    cd (a1 ≤ 2) (
      some (a1, w6)) <|
    some (2, w6)) <|
  gd ((sh w6 a0).1 = 12) <|
  rr (gR w6 a0 15) fun x10 =>
  gd ((sh w6 x10).1 = 50) <|
  gd (¬ (a2 < 0 ∨ (sh w6 x10).2 ≤ a2.toNatClampNeg)) <|
  bd (gI w6 x10 a2.toNatClampNeg) fun x14 =>
  cd (x14 = 2) (
  rr (gR w6 a0 16) fun x16 =>
  gd ((sh w6 x16).1 = 50) <|
  gd (¬ (a2 < 0 ∨ (sh w6 x16).2 ≤ a2.toNatClampNeg)) <|
  bd (gI w6 x16 a2.toNatClampNeg) fun x20 =>
  bd (a2 + 1) fun x21 =>
  rec7 (a0, x20, x21, w6)) <|
    bd (a2 + 1) fun x15 =>
    rec7 (a0, a1, x15, w6)
def f_M_mostNow_l7 (N : Nat) (a0 : Nat) (a1 : Int32) (a2 : Int32) (w : gW) : Option (Int32 × gW) :=
  itr (fun rec (q : Nat × Int32 × Int32 × gW) => f_M_mostNow_b7 N rec q.1 q.2.1 q.2.2.1 q.2.2.2) N (a0, a1, a2, w)
def f_M_mostNow_b0 (N : Nat) (a0 : Nat) (w : gW) : Option (Int32 × gW) :=
  gd ((sh w a0).1 = 12) <|
  kl (f_M_begin N a0 w) fun x1 w2 =>
  f_M_mostNow_l7 N a0 2 x1 w2
def f_M_mostNow (N : Nat) (a0 : Nat) (w : gW) : Option (Int32 × gW) := f_M_mostNow_b0 N a0 w
def f_M_factOf_b11 (N : Nat) (a0 : Nat) (a1 : Int32) (a2 : Int32) (a3 : Int32) (w : gW) : Option (Int32 × gW) :=
  cd (a1 = 0) (
    some (a2, w)) <|
  cd (a1 = 1) (
    gd ((sh w a0).1 = 12) <|
    rr (gR w a0 1) fun x4 =>
    gd ((sh w x4).1 = 50) <|
    gd (¬ (a2 < 0 ∨ (sh w x4).2 ≤ a2.toNatClampNeg)) <|
    bd (gI w x4 a2.toNatClampNeg) fun x8 =>
    some (x8, w)) <|
  cd (a1 = 2) (
    gd ((sh w a0).1 = 12) <|
    rr (gR w a0 7) fun x11 =>
    gd ((sh w x11).1 = 50) <|
    gd (¬ (a2 < 0 ∨ (sh w x11).2 ≤ a2.toNatClampNeg)) <|
    bd (gI w x11 a2.toNatClampNeg) fun x15 =>
    some (x15, w)) <|
  cd (a1 = 3) (
    some (a3, w)) <|
  cd (a1 = 4) (
    gd ((sh w a0).1 = 12) <|
    rr (gR w a0 2) fun x19 =>
    gd ((sh w x19).1 = 50) <|
    gd (¬ (a3 < 0 ∨ (sh w x19).2 ≤ a3.toNatClampNeg)) <|
    bd (gI w x19 a3.toNatClampNeg) fun x23 =>
    some (x23, w)) <|
  gd ((sh w a0).1 = 12) <|
  rr (gR w a0 4) fun x25 =>
  gd ((sh w x25).1 = 50) <|
  gd (¬ (a3 < 0 ∨ (sh w x25).2 ≤ a3.toNatClampNeg)) <|
  bd (gI w x25 a3.toNatClampNeg) fun x29 =>
  bd (x29 - x29 / 7 * 7) fun x30 =>
  some (x30, w)
def f_M_factOf_b0 (N : Nat) (a0 : Nat) (a1 : Int32) (a2 : Int32) (a3 : Int32) (w : gW) : Option (Int32 × gW) :=
  cd (a1 ≤ 1) (
    f_M_factOf_b11 N a0 a1 a2 a3 w) <|
  cd ((0 : Int32) ≤ a3) (
    f_M_factOf_b11 N a0 a1 a2 a3 w) <|
  some (0, w)
def f_M_factOf (N : Nat) (a0 : Nat) (a1 : Int32) (a2 : Int32) (a3 : Int32) (w : gW) : Option (Int32 × gW) := f_M_factOf_b0 N a0 a1 a2 a3 w
def f_M_holds_b142 (N : Nat) (rec11 : Nat × Int32 × Int32 × Int32 × Int32 × Int32 × gW → Option (Int32 × gW)) (a0 : Nat) (a1 : Int32) (a2 : Int32) (a3 : Int32) (a4 : Int32) (a5 : Int32) (z0 : Int32) (z1 : Nat) (w : gW) : Option (Int32 × gW) :=
  gd ((sh w z1).1 = 53) <|
  gd (¬ (z0 < 0 ∨ (sh w z1).2 ≤ z0.toNatClampNeg)) <|
  bd (sI w z1 z0.toNatClampNeg (vp_nar .boolean 1)) fun w76 =>
  bd (a5 + 1) fun x77 =>
  rec11 (a0, a1, a2, a3, a4, x77, w76)
def f_M_holds_b116 (N : Nat) (rec11 : Nat × Int32 × Int32 × Int32 × Int32 × Int32 × gW → Option (Int32 × gW)) (a0 : Nat) (a1 : Int32) (a2 : Int32) (a3 : Int32) (a4 : Int32) (a5 : Int32) (z0 : Int32) (z1 : Nat) (w : gW) : Option (Int32 × gW) :=
  gd ((sh w z1).1 = 53) <|
  gd (¬ (z0 < 0 ∨ (sh w z1).2 ≤ z0.toNatClampNeg)) <|
  bd (sI w z1 z0.toNatClampNeg (vp_nar .boolean 0)) fun w89 =>
  bd (a5 + 1) fun x90 =>
  rec11 (a0, a1, a2, a3, a4, x90, w89)
set_option maxRecDepth 20000 in
def f_M_holds_b11 (N : Nat) (rec11 : Nat × Int32 × Int32 × Int32 × Int32 × Int32 × gW → Option (Int32 × gW)) (a0 : Nat) (a1 : Int32) (a2 : Int32) (a3 : Int32) (a4 : Int32) (a5 : Int32) (w : gW) : Option (Int32 × gW) :=
  gd ((sh w a0).1 = 12) <|
  rr (gR w a0 18) fun x8 =>
  gd ((sh w x8).1 = 50) <|
  gd (¬ (a1 < 0 ∨ (sh w x8).2 ≤ a1.toNatClampNeg)) <|
  bd (gI w x8 a1.toNatClampNeg) fun x12 =>
  cd (x12 ≤ a5) (
    rr (gR w a0 25) fun x13 =>
    gd ((sh w x13).1 = 53) <|
    gd (¬ ((0 : Int32) < 0 ∨ (sh w x13).2 ≤ (0 : Int32).toNatClampNeg)) <|
    bd (gI w x13 (0 : Int32).toNatClampNeg) fun x17 =>
    gd (x17 = 0 ∨ x17 = 1) <|
    some (x17, w)) <|
  rr (gR w a0 19) fun x19 =>
  gd ((sh w x19).1 = 50) <|
  gd (¬ (a5 < 0 ∨ (sh w x19).2 ≤ a5.toNatClampNeg)) <|
  bd (gI w x19 a5.toNatClampNeg) fun x23 =>
  cd (x23 = (-33)) (
  rr (gR w a0 25) fun x96 =>
  bd (a4 - 1) fun x98 =>
  bd (a4 - 1) fun x99 =>
  gd ((sh w x96).1 = 53) <|
  gd (¬ (x99 < 0 ∨ (sh w x96).2 ≤ x99.toNatClampNeg)) <|
  bd (gI w x96 x99.toNatClampNeg) fun x102 =>
  cd (x102 = 0) (
  gd (¬ (x98 < 0 ∨ (sh w x96).2 ≤ x98.toNatClampNeg)) <|
  bd (sI w x96 x98.toNatClampNeg (vp_nar .boolean 1)) fun w107 =>
  bd (a5 + 1) fun x108 =>
  rec11 (a0, a1, a2, a3, a4, x108, w107)) <|
    gd (¬ (x98 < 0 ∨ (sh w x96).2 ≤ x98.toNatClampNeg)) <|
    bd (sI w x96 x98.toNatClampNeg (vp_nar .boolean 0)) fun w104 =>
    bd (a5 + 1) fun x105 =>
    rec11 (a0, a1, a2, a3, a4, x105, w104)) <|
    cd ((0 : Int32) ≤ x23) (
      bd (x23 / 1000) fun x24 =>
      kl (f_M_factOf N a0 x24 a2 a3 w) fun x25 w26 =>
      bd (x23 / 100) fun x28 =>
      bd (x28 - x28 / 10 * 10) fun x29 =>
      gd ((sh w26 a0).1 = 12) <|
      rr (gR w26 a0 25) fun x31 =>
      cd (x29 = 0) (
      bd (x23 - x23 / 100 * 100) fun x55 =>
      cd (x55 ≤ x25) (
        gd ((sh w26 x31).1 = 53) <|
        gd (¬ (a4 < 0 ∨ (sh w26 x31).2 ≤ a4.toNatClampNeg)) <|
        bd (sI w26 x31 a4.toNatClampNeg (vp_nar .boolean 0)) fun w58 =>
        bd (a4 + 1) fun x59 =>
        bd (a5 + 1) fun x60 =>
        rec11 (a0, a1, a2, a3, x59, x60, w58)) <|
      gd ((sh w26 x31).1 = 53) <|
      gd (¬ (a4 < 0 ∨ (sh w26 x31).2 ≤ a4.toNatClampNeg)) <|
      bd (sI w26 x31 a4.toNatClampNeg (vp_nar .boolean 1)) fun w63 =>
      bd (a4 + 1) fun x64 =>
      bd (a5 + 1) fun x65 =>
      rec11 (a0, a1, a2, a3, x64, x65, w63)) <|
        cd (x29 = 1) (
        bd (x23 - x23 / 100 * 100) fun x44 =>
        cd (x25 = x44) (
        gd ((sh w26 x31).1 = 53) <|
        gd (¬ (a4 < 0 ∨ (sh w26 x31).2 ≤ a4.toNatClampNeg)) <|
        bd (sI w26 x31 a4.toNatClampNeg (vp_nar .boolean 1)) fun w52 =>
        bd (a4 + 1) fun x53 =>
        bd (a5 + 1) fun x54 =>
        rec11 (a0, a1, a2, a3, x53, x54, w52)) <|
          gd ((sh w26 x31).1 = 53) <|
          gd (¬ (a4 < 0 ∨ (sh w26 x31).2 ≤ a4.toNatClampNeg)) <|
          bd (sI w26 x31 a4.toNatClampNeg (vp_nar .boolean 0)) fun w47 =>
          bd (a4 + 1) fun x48 =>
          bd (a5 + 1) fun x49 =>
          rec11 (a0, a1, a2, a3, x48, x49, w47)) <|
          bd (x23 - x23 / 100 * 100) fun x33 =>
          cd (x25 ≤ x33) (
            gd ((sh w26 x31).1 = 53) <|
            gd (¬ (a4 < 0 ∨ (sh w26 x31).2 ≤ a4.toNatClampNeg)) <|
            bd (sI w26 x31 a4.toNatClampNeg (vp_nar .boolean 0)) fun w36 =>
            bd (a4 + 1) fun x37 =>
            bd (a5 + 1) fun x38 =>
            rec11 (a0, a1, a2, a3, x37, x38, w36)) <|
          gd ((sh w26 x31).1 = 53) <|
          gd (¬ (a4 < 0 ∨ (sh w26 x31).2 ≤ a4.toNatClampNeg)) <|
          bd (sI w26 x31 a4.toNatClampNeg (vp_nar .boolean 1)) fun w41 =>
          bd (a4 + 1) fun x42 =>
          bd (a5 + 1) fun x43 =>
          rec11 (a0, a1, a2, a3, x42, x43, w41)) <|
    bd (a4 + (-1)) fun x66 =>
    rr (gR w a0 25) fun x67 =>
    bd (x66 - 1) fun x69 =>
    cd (x23 = (-38)) (
    bd (x66 - 1) fun x83 =>
    gd ((sh w x67).1 = 53) <|
    gd (¬ (x83 < 0 ∨ (sh w x67).2 ≤ x83.toNatClampNeg)) <|
    bd (gI w x67 x83.toNatClampNeg) fun x86 =>
    cd (x86 = 0) (
      f_M_holds_b116 N rec11 a0 a1 a2 a3 x66 a5 x69 x67 w) <|
    gd (¬ (x66 < 0 ∨ (sh w x67).2 ≤ x66.toNatClampNeg)) <|
    bd (gI w x67 x66.toNatClampNeg) fun x92 =>
    cd (x92 = 0) (
      f_M_holds_b116 N rec11 a0 a1 a2 a3 x66 a5 x69 x67 w) <|
    gd (¬ (x69 < 0 ∨ (sh w x67).2 ≤ x69.toNatClampNeg)) <|
    bd (sI w x67 x69.toNatClampNeg (vp_nar .boolean 1)) fun w94 =>
    bd (a5 + 1) fun x95 =>
    rec11 (a0, a1, a2, a3, x66, x95, w94)) <|
      bd (x66 - 1) fun x70 =>
      gd ((sh w x67).1 = 53) <|
      gd (¬ (x70 < 0 ∨ (sh w x67).2 ≤ x70.toNatClampNeg)) <|
      bd (gI w x67 x70.toNatClampNeg) fun x73 =>
      cd (x73 = 0) (
      gd (¬ (x66 < 0 ∨ (sh w x67).2 ≤ x66.toNatClampNeg)) <|
      bd (gI w x67 x66.toNatClampNeg) fun x79 =>
      cd (x79 = 0) (
        gd (¬ (x69 < 0 ∨ (sh w x67).2 ≤ x69.toNatClampNeg)) <|
        bd (sI w x67 x69.toNatClampNeg (vp_nar .boolean 0)) fun w81 =>
        bd (a5 + 1) fun x82 =>
        rec11 (a0, a1, a2, a3, x66, x82, w81)) <|
      f_M_holds_b142 N rec11 a0 a1 a2 a3 x66 a5 x69 x67 w) <|
        f_M_holds_b142 N rec11 a0 a1 a2 a3 x66 a5 x69 x67 w
def f_M_holds_l11 (N : Nat) (a0 : Nat) (a1 : Int32) (a2 : Int32) (a3 : Int32) (a4 : Int32) (a5 : Int32) (w : gW) : Option (Int32 × gW) :=
  itr (fun rec (q : Nat × Int32 × Int32 × Int32 × Int32 × Int32 × gW) => f_M_holds_b11 N rec q.1 q.2.1 q.2.2.1 q.2.2.2.1 q.2.2.2.2.1 q.2.2.2.2.2.1 q.2.2.2.2.2.2) N (a0, a1, a2, a3, a4, a5, w)
def f_M_holds_b0 (N : Nat) (a0 : Nat) (a1 : Int32) (a2 : Int32) (a3 : Int32) (w : gW) : Option (Int32 × gW) :=
  gd ((sh w a0).1 = 12) <|
  rr (gR w a0 17) fun x2 =>
  gd ((sh w x2).1 = 50) <|
  gd (¬ (a1 < 0 ∨ (sh w x2).2 ≤ a1.toNatClampNeg)) <|
  bd (gI w x2 a1.toNatClampNeg) fun x6 =>
  f_M_holds_l11 N a0 a1 a2 a3 0 x6 w
def f_M_holds (N : Nat) (a0 : Nat) (a1 : Int32) (a2 : Int32) (a3 : Int32) (w : gW) : Option (Int32 × gW) := f_M_holds_b0 N a0 a1 a2 a3 w
def f_M_sumOf_b12 (N : Nat) (rec12 : Nat × Int32 × Int32 × Int32 × Int32 × Int32 × Int32 × Int32 × gW → Option (Int32 × gW)) (a0 : Nat) (a1 : Int32) (a2 : Int32) (a3 : Int32) (a4 : Int32) (a5 : Int32) (a6 : Int32) (a7 : Int32) (w : gW) : Option (Int32 × gW) :=
  gd ((sh w a0).1 = 12) <|
  kl (f_M_behindText N a0 w) fun x5 w6 =>
  cd (x5 ≤ a7) (
    cd (a6 = 0) (
      some (a4, w6)) <|
    some (a5, w6)) <|
  gd ((sh w6 a0).1 = 12) <|
  rr (gR w6 a0 15) fun x10 =>
  gd ((sh w6 x10).1 = 50) <|
  gd (¬ (a7 < 0 ∨ (sh w6 x10).2 ≤ a7.toNatClampNeg)) <|
  bd (gI w6 x10 a7.toNatClampNeg) fun x14 =>
  cd (x14 = a1) (
    kl (f_M_holds N a0 a7 a2 a3 w6) fun x15 w16 =>
    cd (x15 = 0) (
      bd (a5 + 0) fun x18 =>
      bd (a7 + 1) fun x19 =>
      rec12 (a0, a1, a2, a3, a4, x18, 1, x19, w16)) <|
    gd ((sh w16 a0).1 = 12) <|
    rr (gR w16 a0 16) fun x21 =>
    gd ((sh w16 x21).1 = 50) <|
    gd (¬ (a7 < 0 ∨ (sh w16 x21).2 ≤ a7.toNatClampNeg)) <|
    bd (gI w16 x21 a7.toNatClampNeg) fun x25 =>
    bd (a5 + x25) fun x26 =>
    bd (a7 + 1) fun x27 =>
    rec12 (a0, a1, a2, a3, a4, x26, 1, x27, w16)) <|
  bd (a7 + 1) fun x28 =>
  rec12 (a0, a1, a2, a3, a4, a5, a6, x28, w6)
def f_M_sumOf_l12 (N : Nat) (a0 : Nat) (a1 : Int32) (a2 : Int32) (a3 : Int32) (a4 : Int32) (a5 : Int32) (a6 : Int32) (a7 : Int32) (w : gW) : Option (Int32 × gW) :=
  itr (fun rec (q : Nat × Int32 × Int32 × Int32 × Int32 × Int32 × Int32 × Int32 × gW) => f_M_sumOf_b12 N rec q.1 q.2.1 q.2.2.1 q.2.2.2.1 q.2.2.2.2.1 q.2.2.2.2.2.1 q.2.2.2.2.2.2.1 q.2.2.2.2.2.2.2.1 q.2.2.2.2.2.2.2.2) N (a0, a1, a2, a3, a4, a5, a6, a7, w)
def f_M_sumOf_b0 (N : Nat) (a0 : Nat) (a1 : Int32) (a2 : Int32) (a3 : Int32) (a4 : Int32) (w : gW) : Option (Int32 × gW) :=
  gd ((sh w a0).1 = 12) <|
  kl (f_M_begin N a0 w) fun x1 w2 =>
  f_M_sumOf_l12 N a0 a1 a2 a3 a4 0 0 x1 w2
def f_M_sumOf (N : Nat) (a0 : Nat) (a1 : Int32) (a2 : Int32) (a3 : Int32) (a4 : Int32) (w : gW) : Option (Int32 × gW) := f_M_sumOf_b0 N a0 a1 a2 a3 a4 w
def f_M_heft_b0 (N : Nat) (a0 : Nat) (a1 : Int32) (w : gW) : Option (Int32 × gW) :=
  bd (a1 + 2) fun x1 =>
  gd ((sh w a0).1 = 12) <|
  kl (f_M_sumOf N a0 0 a1 (-1) x1 w) fun x2 w3 =>
  some (x2, w3)
def f_M_heft (N : Nat) (a0 : Nat) (a1 : Int32) (w : gW) : Option (Int32 × gW) := f_M_heft_b0 N a0 a1 w
def f_M_kept_b0 (N : Nat) (a0 : Nat) (a1 : Int32) (a2 : Int32) (w : gW) : Option (Int32 × gW) :=
  gd ((sh w a0).1 = 12) <|
  kl (f_M_sumOf N a0 1 a2 a1 0 w) fun x1 w2 =>
  some (x1, w2)
def f_M_kept (N : Nat) (a0 : Nat) (a1 : Int32) (a2 : Int32) (w : gW) : Option (Int32 × gW) := f_M_kept_b0 N a0 a1 a2 w
def f_M_weight_b4 (N : Nat) (rec4 : Nat × Int32 × Int32 × Int32 × gW → Option (Int32 × gW)) (a0 : Nat) (a1 : Int32) (a2 : Int32) (a3 : Int32) (w : gW) : Option (Int32 × gW) :=
  cd ((6 : Int32) ≤ a3) (
    some (a2, w)) <|
  gd ((sh w a0).1 = 12) <|
  rr (gR w a0 6) fun x2 =>
  bd (6 * a1) fun x4 =>
  bd (x4 + a3) fun x5 =>
  gd ((sh w x2).1 = 50) <|
  gd (¬ (x5 < 0 ∨ (sh w x2).2 ≤ x5.toNatClampNeg)) <|
  bd (gI w x2 x5.toNatClampNeg) fun x8 =>
  kl (f_M_heft N a0 a3 w) fun x9 w10 =>
  bd (x8 * x9) fun x12 =>
  bd (a2 + x12) fun x13 =>
  bd (a3 + 1) fun x14 =>
  rec4 (a0, a1, x13, x14, w10)
def f_M_weight_l4 (N : Nat) (a0 : Nat) (a1 : Int32) (a2 : Int32) (a3 : Int32) (w : gW) : Option (Int32 × gW) :=
  itr (fun rec (q : Nat × Int32 × Int32 × Int32 × gW) => f_M_weight_b4 N rec q.1 q.2.1 q.2.2.1 q.2.2.2.1 q.2.2.2.2) N (a0, a1, a2, a3, w)
def f_M_weight_b0 (N : Nat) (a0 : Nat) (a1 : Int32) (w : gW) : Option (Int32 × gW) :=
  f_M_weight_l4 N a0 a1 0 0 w
def f_M_weight (N : Nat) (a0 : Nat) (a1 : Int32) (w : gW) : Option (Int32 × gW) := f_M_weight_b0 N a0 a1 w
def f_M_coins_b4 (N : Nat) (rec4 : Nat × Int32 × Int32 × Int32 × gW → Option (Int32 × gW)) (a0 : Nat) (a1 : Int32) (a2 : Int32) (a3 : Int32) (w : gW) : Option (Int32 × gW) :=
  cd ((6 : Int32) ≤ a3) (
    some (a2, w)) <|
  gd ((sh w a0).1 = 12) <|
  rr (gR w a0 6) fun x2 =>
  bd (6 * a1) fun x4 =>
  bd (x4 + a3) fun x5 =>
  gd ((sh w x2).1 = 50) <|
  gd (¬ (x5 < 0 ∨ (sh w x2).2 ≤ x5.toNatClampNeg)) <|
  bd (gI w x2 x5.toNatClampNeg) fun x8 =>
  bd (a2 + x8) fun x9 =>
  bd (a3 + 1) fun x10 =>
  rec4 (a0, a1, x9, x10, w)
def f_M_coins_l4 (N : Nat) (a0 : Nat) (a1 : Int32) (a2 : Int32) (a3 : Int32) (w : gW) : Option (Int32 × gW) :=
  itr (fun rec (q : Nat × Int32 × Int32 × Int32 × gW) => f_M_coins_b4 N rec q.1 q.2.1 q.2.2.1 q.2.2.2.1 q.2.2.2.2) N (a0, a1, a2, a3, w)
def f_M_coins_b0 (N : Nat) (a0 : Nat) (a1 : Int32) (w : gW) : Option (Int32 × gW) :=
  f_M_coins_l4 N a0 a1 0 0 w
def f_M_coins (N : Nat) (a0 : Nat) (a1 : Int32) (w : gW) : Option (Int32 × gW) := f_M_coins_b0 N a0 a1 w
def f_M_of_b0 (N : Nat) (a0 : Nat) (a1 : Int32) (a2 : Int32) (w : gW) : Option (Int32 × gW) :=
  gd ((sh w a0).1 = 12) <|
  kl (f_M_isPayer N a0 a1 w) fun x1 w2 =>
  cd (x1 = 0) (
  some ((-1), w2)) <|
    gd ((sh w2 a0).1 = 12) <|
    kl (f_M_in N a0 a2 10 15 w2) fun x5 w6 =>
    cd (x5 = 0) (
      gd ((sh w6 a0).1 = 12) <|
      kl (f_M_in N a0 a2 20 25 w6) fun x9 w10 =>
      cd (x9 = 0) (
        cd (a2 = 0) (
          gd ((sh w10 a0).1 = 12) <|
          rr (gR w10 a0 2) fun x15 =>
          gd ((sh w10 x15).1 = 50) <|
          gd (¬ (a1 < 0 ∨ (sh w10 x15).2 ≤ a1.toNatClampNeg)) <|
          bd (gI w10 x15 a1.toNatClampNeg) fun x19 =>
          some (x19, w10)) <|
        cd (a2 = 1) (
          gd ((sh w10 a0).1 = 12) <|
          rr (gR w10 a0 3) fun x22 =>
          gd ((sh w10 x22).1 = 50) <|
          gd (¬ (a1 < 0 ∨ (sh w10 x22).2 ≤ a1.toNatClampNeg)) <|
          bd (gI w10 x22 a1.toNatClampNeg) fun x26 =>
          some (x26, w10)) <|
        cd (a2 = 2) (
          gd ((sh w10 a0).1 = 12) <|
          rr (gR w10 a0 4) fun x29 =>
          gd ((sh w10 x29).1 = 50) <|
          gd (¬ (a1 < 0 ∨ (sh w10 x29).2 ≤ a1.toNatClampNeg)) <|
          bd (gI w10 x29 a1.toNatClampNeg) fun x33 =>
          some (x33, w10)) <|
        cd (a2 = 3) (
          gd ((sh w10 a0).1 = 12) <|
          kl (f_M_weight N a0 a1 w10) fun x35 w36 =>
          some (x35, w36)) <|
        cd (a2 = 4) (
          gd ((sh w10 a0).1 = 12) <|
          kl (f_M_coins N a0 a1 w10) fun x40 w41 =>
          some (x40, w41)) <|
        some ((-1), w10)) <|
      bd (a2 - 20) fun x44 =>
      gd ((sh w10 a0).1 = 12) <|
      kl (f_M_kept N a0 a1 x44 w10) fun x45 w46 =>
      some (x45, w46)) <|
    gd ((sh w6 a0).1 = 12) <|
    rr (gR w6 a0 6) fun x50 =>
    bd (6 * a1) fun x52 =>
    bd (x52 + a2) fun x53 =>
    bd (x53 - 10) fun x54 =>
    gd ((sh w6 x50).1 = 50) <|
    gd (¬ (x54 < 0 ∨ (sh w6 x50).2 ≤ x54.toNatClampNeg)) <|
    bd (gI w6 x50 x54.toNatClampNeg) fun x57 =>
    some (x57, w6)
def f_M_of (N : Nat) (a0 : Nat) (a1 : Int32) (a2 : Int32) (w : gW) : Option (Int32 × gW) := f_M_of_b0 N a0 a1 a2 w
def f_M_told_b0 (N : Nat) (a0 : Nat) (a1 : Int32) (w : gW) : Option (Int32 × gW) :=
  cd (a1 = 0) (
  gd ((sh w a0).1 = 12) <|
  kl (f_M_mostNow N a0 w) fun x21 w22 =>
  some (x21, w22)) <|
    gd ((sh w a0).1 = 12) <|
    kl (f_M_in N a0 a1 10 15 w) fun x1 w2 =>
    cd (x1 = 0) (
      gd ((sh w2 a0).1 = 12) <|
      kl (f_M_in N a0 a1 20 25 w2) fun x5 w6 =>
      cd (x5 = 0) (
        some ((-1), w6)) <|
      bd (a1 - 20) fun x9 =>
      gd ((sh w6 a0).1 = 12) <|
      kl (f_M_heft N a0 x9 w6) fun x10 w11 =>
      some (x10, w11)) <|
    gd ((sh w2 a0).1 = 12) <|
    rr (gR w2 a0 7) fun x15 =>
    bd (a1 - 10) fun x17 =>
    gd ((sh w2 x15).1 = 50) <|
    gd (¬ (x17 < 0 ∨ (sh w2 x15).2 ≤ x17.toNatClampNeg)) <|
    bd (gI w2 x15 x17.toNatClampNeg) fun x20 =>
    some (x20, w2)
def f_M_told (N : Nat) (a0 : Nat) (a1 : Int32) (w : gW) : Option (Int32 × gW) := f_M_told_b0 N a0 a1 w
def f_M_layLimits_b59 (N : Nat) (rec7 : Nat × Int32 × Int32 × Int32 × gW → Option (Unit × gW)) (a0 : Nat) (a1 : Int32) (a2 : Int32) (a3 : Int32) (z0 : Int32) (z1 : Int32) (z2 : Nat) (w : gW) : Option (Unit × gW) :=
  gd ((sh w z2).1 = 50) <|
  gd (¬ (z1 < 0 ∨ (sh w z2).2 ≤ z1.toNatClampNeg)) <|
  bd (sI w z2 z1.toNatClampNeg z0) fun w22 =>
  gd ((sh w22 a0).1 = 12) <|
  rr (gR w22 a0 27) fun x24 =>
  gd ((sh w22 x24).1 = 50) <|
  gd (¬ (a3 < 0 ∨ (sh w22 x24).2 ≤ a3.toNatClampNeg)) <|
  bd (sI w22 x24 a3.toNatClampNeg 0) fun w28 =>
  gd ((sh w28 a0).1 = 12) <|
  rr (gR w28 a0 29) fun x30 =>
  kl (f_M_heft N a0 a3 w28) fun x32 w33 =>
  gd ((sh w33 x30).1 = 50) <|
  gd (¬ (a3 < 0 ∨ (sh w33 x30).2 ≤ a3.toNatClampNeg)) <|
  bd (sI w33 x30 a3.toNatClampNeg x32) fun w37 =>
  bd (a3 + 1) fun x38 =>
  rec7 (a0, a1, a2, x38, w37)
def f_M_layLimits_b7 (N : Nat) (rec7 : Nat × Int32 × Int32 × Int32 × gW → Option (Unit × gW)) (a0 : Nat) (a1 : Int32) (a2 : Int32) (a3 : Int32) (w : gW) : Option (Unit × gW) :=
  cd ((6 : Int32) ≤ a3) (
    some ((), w)) <|
  gd ((sh w a0).1 = 12) <|
  rr (gR w a0 6) fun x6 =>
  bd (6 * a1) fun x8 =>
  bd (x8 + a3) fun x9 =>
  gd ((sh w x6).1 = 50) <|
  gd (¬ (x9 < 0 ∨ (sh w x6).2 ≤ x9.toNatClampNeg)) <|
  bd (gI w x6 x9.toNatClampNeg) fun x12 =>
  kl (f_M_kept N a0 a1 a3 w) fun x13 w14 =>
  bd (x12 - x13) fun x16 =>
  gd ((sh w14 a0).1 = 12) <|
  rr (gR w14 a0 26) fun x18 =>
  cd ((0 : Int32) ≤ x16) (
    cd (a2 ≤ x16) (
      f_M_layLimits_b59 N rec7 a0 a1 a2 a3 a2 a3 x18 w14) <|
    f_M_layLimits_b59 N rec7 a0 a1 a2 a3 x16 a3 x18 w14) <|
  f_M_layLimits_b59 N rec7 a0 a1 a2 a3 0 a3 x18 w14
def f_M_layLimits_l7 (N : Nat) (a0 : Nat) (a1 : Int32) (a2 : Int32) (a3 : Int32) (w : gW) : Option (Unit × gW) :=
  itr (fun rec (q : Nat × Int32 × Int32 × Int32 × gW) => f_M_layLimits_b7 N rec q.1 q.2.1 q.2.2.1 q.2.2.2.1 q.2.2.2.2) N (a0, a1, a2, a3, w)
def f_M_layLimits_b0 (N : Nat) (a0 : Nat) (a1 : Int32) (w : gW) : Option (Unit × gW) :=
  gd ((sh w a0).1 = 12) <|
  kl (f_M_mostNow N a0 w) fun x1 w2 =>
  f_M_layLimits_l7 N a0 a1 x1 0 w2
def f_M_layLimits (N : Nat) (a0 : Nat) (a1 : Int32) (w : gW) : Option (Unit × gW) := f_M_layLimits_b0 N a0 a1 w
def f_M_nextHand_b2 (N : Nat) (rec2 : Nat × Int32 × gW → Option (Int32 × gW)) (a0 : Nat) (a1 : Int32) (w : gW) : Option (Int32 × gW) :=
  cd (a1 < 0) (
    some (0, w)) <|
  gd ((sh w a0).1 = 12) <|
  rr (gR w a0 27) fun x2 =>
  gd ((sh w x2).1 = 50) <|
  gd (¬ (a1 < 0 ∨ (sh w x2).2 ≤ a1.toNatClampNeg)) <|
  bd (gI w x2 a1.toNatClampNeg) fun x6 =>
  bd (x6 + 1) fun x7 =>
  bd (sI w x2 a1.toNatClampNeg x7) fun w8 =>
  gd ((sh w8 a0).1 = 12) <|
  rr (gR w8 a0 27) fun x10 =>
  gd ((sh w8 x10).1 = 50) <|
  gd (¬ (a1 < 0 ∨ (sh w8 x10).2 ≤ a1.toNatClampNeg)) <|
  bd (gI w8 x10 a1.toNatClampNeg) fun x14 =>
  rr (gR w8 a0 26) fun x15 =>
  gd ((sh w8 x15).1 = 50) <|
  gd (¬ (a1 < 0 ∨ (sh w8 x15).2 ≤ a1.toNatClampNeg)) <|
  bd (gI w8 x15 a1.toNatClampNeg) fun x19 =>
  cd (x19 < x14) (
    bd (sI w8 x10 a1.toNatClampNeg 0) fun w20 =>
    bd (a1 + (-1)) fun x21 =>
    rec2 (a0, x21, w20)) <|
  some (1, w8)
def f_M_nextHand_l2 (N : Nat) (a0 : Nat) (a1 : Int32) (w : gW) : Option (Int32 × gW) :=
  itr (fun rec (q : Nat × Int32 × gW) => f_M_nextHand_b2 N rec q.1 q.2.1 q.2.2) N (a0, a1, w)
def f_M_nextHand_b0 (N : Nat) (a0 : Nat) (w : gW) : Option (Int32 × gW) :=
  f_M_nextHand_l2 N a0 5 w
def f_M_nextHand (N : Nat) (a0 : Nat) (w : gW) : Option (Int32 × gW) := f_M_nextHand_b0 N a0 w
def f_M_laySum_b12 (N : Nat) (rec12 : Nat × Int32 × gW → Option (Unit × gW)) (a0 : Nat) (a1 : Int32) (w : gW) : Option (Unit × gW) :=
  cd ((6 : Int32) ≤ a1) (
    some ((), w)) <|
  gd ((sh w a0).1 = 12) <|
  bd (gI w a0 32) fun x6 =>
  rr (gR w a0 27) fun x7 =>
  gd ((sh w x7).1 = 50) <|
  gd (¬ (a1 < 0 ∨ (sh w x7).2 ≤ a1.toNatClampNeg)) <|
  bd (gI w x7 a1.toNatClampNeg) fun x11 =>
  rr (gR w a0 1) fun x12 =>
  gd ((sh w x12).1 = 50) <|
  gd (¬ (a1 < 0 ∨ (sh w x12).2 ≤ a1.toNatClampNeg)) <|
  bd (gI w x12 a1.toNatClampNeg) fun x16 =>
  bd (x11 * x16) fun x17 =>
  bd (x6 + x17) fun x18 =>
  bd (sI w a0 32 x18) fun w19 =>
  gd ((sh w19 a0).1 = 12) <|
  bd (gI w19 a0 33) fun x21 =>
  rr (gR w19 a0 27) fun x22 =>
  gd ((sh w19 x22).1 = 50) <|
  gd (¬ (a1 < 0 ∨ (sh w19 x22).2 ≤ a1.toNatClampNeg)) <|
  bd (gI w19 x22 a1.toNatClampNeg) fun x26 =>
  bd (x21 + x26) fun x27 =>
  bd (sI w19 a0 33 x27) fun w28 =>
  bd (a1 + 1) fun x29 =>
  rec12 (a0, x29, w28)
def f_M_laySum_l12 (N : Nat) (a0 : Nat) (a1 : Int32) (w : gW) : Option (Unit × gW) :=
  itr (fun rec (q : Nat × Int32 × gW) => f_M_laySum_b12 N rec q.1 q.2.1 q.2.2) N (a0, a1, w)
def f_M_laySum_b0 (N : Nat) (a0 : Nat) (w : gW) : Option (Unit × gW) :=
  gd ((sh w a0).1 = 12) <|
  bd (sI w a0 32 0) fun w2 =>
  gd ((sh w2 a0).1 = 12) <|
  bd (sI w2 a0 33 0) fun w4 =>
  f_M_laySum_l12 N a0 0 w4
def f_M_laySum (N : Nat) (a0 : Nat) (w : gW) : Option (Unit × gW) := f_M_laySum_b0 N a0 w
def f_M_pays_b73 (N : Nat) (rec20 : Nat × Int32 × Int32 × Int32 × gW → Option (Int32 × gW)) (a0 : Nat) (a1 : Int32) (a3 : Int32) (a4 : Int32) (a6 : Int32) (z0 : Int32) (z1 : Int32) (z2 : Nat) (w : gW) : Option (Int32 × gW) :=
  gd ((sh w z2).1 = 50) <|
  gd (¬ (z1 < 0 ∨ (sh w z2).2 ≤ z1.toNatClampNeg)) <|
  bd (sI w z2 z1.toNatClampNeg z0) fun w31 =>
  gd ((sh w31 a0).1 = 12) <|
  rr (gR w31 a0 28) fun x33 =>
  gd ((sh w31 x33).1 = 50) <|
  gd (¬ (a4 < 0 ∨ (sh w31 x33).2 ≤ a4.toNatClampNeg)) <|
  bd (gI w31 x33 a4.toNatClampNeg) fun x37 =>
  rr (gR w31 a0 1) fun x38 =>
  gd ((sh w31 x38).1 = 50) <|
  gd (¬ (a4 < 0 ∨ (sh w31 x38).2 ≤ a4.toNatClampNeg)) <|
  bd (gI w31 x38 a4.toNatClampNeg) fun x42 =>
  bd (x37 * x42) fun x43 =>
  bd (a3 - x43) fun x44 =>
  bd (gI w31 x33 a4.toNatClampNeg) fun x45 =>
  bd (a6 - x45) fun x46 =>
  cd ((99 : Int32) < x46) (
    some (0, w31)) <|
  rr (gR w31 a0 6) fun x47 =>
  bd (6 * a1) fun x49 =>
  bd (x49 + a4) fun x50 =>
  gd ((sh w31 x47).1 = 50) <|
  gd (¬ (x50 < 0 ∨ (sh w31 x47).2 ≤ x50.toNatClampNeg)) <|
  bd (gI w31 x47 x50.toNatClampNeg) fun x53 =>
  rr (gR w31 a0 27) fun x54 =>
  gd ((sh w31 x54).1 = 50) <|
  gd (¬ (a4 < 0 ∨ (sh w31 x54).2 ≤ a4.toNatClampNeg)) <|
  bd (gI w31 x54 a4.toNatClampNeg) fun x58 =>
  bd (x53 - x58) fun x59 =>
  bd (gI w31 x33 a4.toNatClampNeg) fun x60 =>
  bd (x59 + x60) fun x61 =>
  cd (x61 ≤ 99) (
    bd (a4 + (-1)) fun x62 =>
    rec20 (a0, a1, x44, x62, w31)) <|
  some (0, w31)
def f_M_pays_b20 (N : Nat) (rec20 : Nat × Int32 × Int32 × Int32 × gW → Option (Int32 × gW)) (a0 : Nat) (a1 : Int32) (a3 : Int32) (a4 : Int32) (w : gW) : Option (Int32 × gW) :=
  cd (a4 < 0) (
    cd (a3 = 0) (
    some (1, w)) <|
      some (0, w)) <|
  gd ((sh w a0).1 = 12) <|
  rr (gR w a0 1) fun x9 =>
  gd ((sh w x9).1 = 50) <|
  gd (¬ (a4 < 0 ∨ (sh w x9).2 ≤ a4.toNatClampNeg)) <|
  bd (gI w x9 a4.toNatClampNeg) fun x13 =>
  gd (¬ x13 = 0) <|
  bd (a3 / x13) fun x15 =>
  rr (gR w a0 7) fun x16 =>
  gd ((sh w x16).1 = 50) <|
  gd (¬ (a4 < 0 ∨ (sh w x16).2 ≤ a4.toNatClampNeg)) <|
  bd (gI w x16 a4.toNatClampNeg) fun x20 =>
  rr (gR w a0 27) fun x21 =>
  gd ((sh w x21).1 = 50) <|
  gd (¬ (a4 < 0 ∨ (sh w x21).2 ≤ a4.toNatClampNeg)) <|
  bd (gI w x21 a4.toNatClampNeg) fun x25 =>
  bd (x20 + x25) fun x26 =>
  rr (gR w a0 28) fun x27 =>
  cd (x26 ≤ x15) (
    f_M_pays_b73 N rec20 a0 a1 a3 a4 x26 x26 a4 x27 w) <|
  f_M_pays_b73 N rec20 a0 a1 a3 a4 x26 x15 a4 x27 w
def f_M_pays_l20 (N : Nat) (a0 : Nat) (a1 : Int32) (a3 : Int32) (a4 : Int32) (w : gW) : Option (Int32 × gW) :=
  itr (fun rec (q : Nat × Int32 × Int32 × Int32 × gW) => f_M_pays_b20 N rec q.1 q.2.1 q.2.2.1 q.2.2.2.1 q.2.2.2.2) N (a0, a1, a3, a4, w)
def f_M_pays_b0 (N : Nat) (a0 : Nat) (a1 : Int32) (a2 : Int32) (w : gW) : Option (Int32 × gW) :=
  gd ((sh w a0).1 = 12) <|
  kl (f_M_laySum N a0 w) fun x1 w2 =>
  gd ((sh w2 a0).1 = 12) <|
  bd (gI w2 a0 32) fun x6 =>
  bd (x6 - a2) fun x7 =>
  cd ((0 : Int32) ≤ x7) (
    f_M_pays_l20 N a0 a1 x7 5 w2) <|
  some (0, w2)
def f_M_pays (N : Nat) (a0 : Nat) (a1 : Int32) (a2 : Int32) (w : gW) : Option (Int32 × gW) := f_M_pays_b0 N a0 a1 a2 w
def f_M_weightBehind_b4 (N : Nat) (rec4 : Nat × Int32 × Int32 × Int32 × gW → Option (Int32 × gW)) (a0 : Nat) (a1 : Int32) (a2 : Int32) (a3 : Int32) (w : gW) : Option (Int32 × gW) :=
  cd ((6 : Int32) ≤ a3) (
    some (a2, w)) <|
  gd ((sh w a0).1 = 12) <|
  rr (gR w a0 6) fun x2 =>
  bd (6 * a1) fun x4 =>
  bd (x4 + a3) fun x5 =>
  gd ((sh w x2).1 = 50) <|
  gd (¬ (x5 < 0 ∨ (sh w x2).2 ≤ x5.toNatClampNeg)) <|
  bd (gI w x2 x5.toNatClampNeg) fun x8 =>
  rr (gR w a0 27) fun x9 =>
  gd ((sh w x9).1 = 50) <|
  gd (¬ (a3 < 0 ∨ (sh w x9).2 ≤ a3.toNatClampNeg)) <|
  bd (gI w x9 a3.toNatClampNeg) fun x13 =>
  bd (x8 - x13) fun x14 =>
  rr (gR w a0 28) fun x15 =>
  gd ((sh w x15).1 = 50) <|
  gd (¬ (a3 < 0 ∨ (sh w x15).2 ≤ a3.toNatClampNeg)) <|
  bd (gI w x15 a3.toNatClampNeg) fun x19 =>
  bd (x14 + x19) fun x20 =>
  rr (gR w a0 29) fun x21 =>
  gd ((sh w x21).1 = 50) <|
  gd (¬ (a3 < 0 ∨ (sh w x21).2 ≤ a3.toNatClampNeg)) <|
  bd (gI w x21 a3.toNatClampNeg) fun x25 =>
  bd (x20 * x25) fun x26 =>
  bd (a2 + x26) fun x27 =>
  bd (a3 + 1) fun x28 =>
  rec4 (a0, a1, x27, x28, w)
def f_M_weightBehind_l4 (N : Nat) (a0 : Nat) (a1 : Int32) (a2 : Int32) (a3 : Int32) (w : gW) : Option (Int32 × gW) :=
  itr (fun rec (q : Nat × Int32 × Int32 × Int32 × gW) => f_M_weightBehind_b4 N rec q.1 q.2.1 q.2.2.1 q.2.2.2.1 q.2.2.2.2) N (a0, a1, a2, a3, w)
def f_M_weightBehind_b0 (N : Nat) (a0 : Nat) (a1 : Int32) (w : gW) : Option (Int32 × gW) :=
  f_M_weightBehind_l4 N a0 a1 0 0 w
def f_M_weightBehind (N : Nat) (a0 : Nat) (a1 : Int32) (w : gW) : Option (Int32 × gW) := f_M_weightBehind_b0 N a0 a1 w
def f_M_coinsBehind_b13 (N : Nat) (rec13 : Nat × Int32 × Int32 × gW → Option (Int32 × gW)) (a0 : Nat) (a2 : Int32) (a3 : Int32) (w : gW) : Option (Int32 × gW) :=
  cd ((6 : Int32) ≤ a3) (
    some (a2, w)) <|
  gd ((sh w a0).1 = 12) <|
  rr (gR w a0 28) fun x9 =>
  gd ((sh w x9).1 = 50) <|
  gd (¬ (a3 < 0 ∨ (sh w x9).2 ≤ a3.toNatClampNeg)) <|
  bd (gI w x9 a3.toNatClampNeg) fun x13 =>
  bd (a2 + x13) fun x14 =>
  bd (a3 + 1) fun x15 =>
  rec13 (a0, x14, x15, w)
def f_M_coinsBehind_l13 (N : Nat) (a0 : Nat) (a2 : Int32) (a3 : Int32) (w : gW) : Option (Int32 × gW) :=
  itr (fun rec (q : Nat × Int32 × Int32 × gW) => f_M_coinsBehind_b13 N rec q.1 q.2.1 q.2.2.1 q.2.2.2) N (a0, a2, a3, w)
def f_M_coinsBehind_b0 (N : Nat) (a0 : Nat) (a1 : Int32) (w : gW) : Option (Int32 × gW) :=
  gd ((sh w a0).1 = 12) <|
  kl (f_M_coins N a0 a1 w) fun x1 w2 =>
  gd ((sh w2 a0).1 = 12) <|
  bd (gI w2 a0 33) fun x6 =>
  bd (x1 - x6) fun x7 =>
  f_M_coinsBehind_l13 N a0 x7 0 w2
def f_M_coinsBehind (N : Nat) (a0 : Nat) (a1 : Int32) (w : gW) : Option (Int32 × gW) := f_M_coinsBehind_b0 N a0 a1 w
def f_M_isBarred_b0 (N : Nat) (a0 : Nat) (a1 : Int32) (w : gW) : Option (Int32 × gW) :=
  gd ((sh w a0).1 = 12) <|
  rr (gR w a0 2) fun x2 =>
  gd ((sh w x2).1 = 50) <|
  gd (¬ (a1 < 0 ∨ (sh w x2).2 ≤ a1.toNatClampNeg)) <|
  bd (gI w x2 a1.toNatClampNeg) fun x6 =>
  cd (x6 = 3) (
  rr (gR w a0 27) fun x26 =>
  rr (gR w a0 3) fun x28 =>
  gd ((sh w x28).1 = 50) <|
  gd (¬ (a1 < 0 ∨ (sh w x28).2 ≤ a1.toNatClampNeg)) <|
  bd (gI w x28 a1.toNatClampNeg) fun x32 =>
  bd (x32 - x32 / 6 * 6) fun x33 =>
  gd ((sh w x26).1 = 50) <|
  gd (¬ (x33 < 0 ∨ (sh w x26).2 ≤ x33.toNatClampNeg)) <|
  bd (gI w x26 x33.toNatClampNeg) fun x36 =>
  cd (x36 ≤ 0) (
    some (0, w)) <|
  some (1, w)) <|
    bd (gI w x2 a1.toNatClampNeg) fun x7 =>
    cd (x7 = 6) (
    rr (gR w a0 27) fun x8 =>
    rr (gR w a0 5) fun x10 =>
    bd (4 * a1) fun x12 =>
    rr (gR w a0 4) fun x13 =>
    gd ((sh w x13).1 = 50) <|
    gd (¬ (a1 < 0 ∨ (sh w x13).2 ≤ a1.toNatClampNeg)) <|
    bd (gI w x13 a1.toNatClampNeg) fun x17 =>
    bd (x17 - x17 / 4 * 4) fun x18 =>
    bd (x12 + x18) fun x19 =>
    gd ((sh w x10).1 = 50) <|
    gd (¬ (x19 < 0 ∨ (sh w x10).2 ≤ x19.toNatClampNeg)) <|
    bd (gI w x10 x19.toNatClampNeg) fun x22 =>
    gd ((sh w x8).1 = 50) <|
    gd (¬ (x22 < 0 ∨ (sh w x8).2 ≤ x22.toNatClampNeg)) <|
    bd (gI w x8 x22.toNatClampNeg) fun x25 =>
    cd (x25 ≤ 0) (
      some (0, w)) <|
    some (1, w)) <|
      some (0, w)
def f_M_isBarred (N : Nat) (a0 : Nat) (a1 : Int32) (w : gW) : Option (Int32 × gW) := f_M_isBarred_b0 N a0 a1 w
def f_M_badness_b70 (N : Nat) (a0 : Nat) (w : gW) : Option (Int32 × gW) :=
  gd ((sh w a0).1 = 12) <|
  bd (gI w a0 32) fun x22 =>
  bd (100 * x22) fun x23 =>
  bd (gI w a0 33) fun x24 =>
  bd (x23 + x24) fun x25 =>
  some (x25, w)
def f_M_badness_b0 (N : Nat) (a0 : Nat) (a1 : Int32) (w : gW) : Option (Int32 × gW) :=
  gd ((sh w a0).1 = 12) <|
  rr (gR w a0 2) fun x2 =>
  gd ((sh w x2).1 = 50) <|
  gd (¬ (a1 < 0 ∨ (sh w x2).2 ≤ a1.toNatClampNeg)) <|
  bd (gI w x2 a1.toNatClampNeg) fun x6 =>
  cd (x6 = 2) (
    bd (gI w a0 33) fun x8 =>
    bd (1000 * x8) fun x9 =>
    bd (gI w a0 32) fun x10 =>
    bd (x9 + x10) fun x11 =>
    some (x11, w)) <|
  cd (x6 = 4) (
    kl (f_M_weightBehind N a0 a1 w) fun x13 w14 =>
    some (x13, w14)) <|
  cd (x6 = 5) (
    bd (gI w a0 33) fun x17 =>
    bd (1000 * x17) fun x18 =>
    bd (gI w a0 32) fun x19 =>
    bd (x18 - x19) fun x20 =>
    some (x20, w)) <|
  f_M_badness_b70 N a0 w
def f_M_badness (N : Nat) (a0 : Nat) (a1 : Int32) (w : gW) : Option (Int32 × gW) := f_M_badness_b0 N a0 a1 w
def f_M_layBest_b2 (N : Nat) (rec2 : Nat × Int32 × gW → Option (Unit × gW)) (a0 : Nat) (a1 : Int32) (w : gW) : Option (Unit × gW) :=
  cd ((6 : Int32) ≤ a1) (
    some ((), w)) <|
  gd ((sh w a0).1 = 12) <|
  rr (gR w a0 30) fun x2 =>
  rr (gR w a0 27) fun x4 =>
  gd ((sh w x4).1 = 50) <|
  gd (¬ (a1 < 0 ∨ (sh w x4).2 ≤ a1.toNatClampNeg)) <|
  bd (gI w x4 a1.toNatClampNeg) fun x8 =>
  gd ((sh w x2).1 = 50) <|
  gd (¬ (a1 < 0 ∨ (sh w x2).2 ≤ a1.toNatClampNeg)) <|
  bd (sI w x2 a1.toNatClampNeg x8) fun w11 =>
  gd ((sh w11 a0).1 = 12) <|
  rr (gR w11 a0 31) fun x13 =>
  rr (gR w11 a0 28) fun x15 =>
  gd ((sh w11 x15).1 = 50) <|
  gd (¬ (a1 < 0 ∨ (sh w11 x15).2 ≤ a1.toNatClampNeg)) <|
  bd (gI w11 x15 a1.toNatClampNeg) fun x19 =>
  gd ((sh w11 x13).1 = 50) <|
  gd (¬ (a1 < 0 ∨ (sh w11 x13).2 ≤ a1.toNatClampNeg)) <|
  bd (sI w11 x13 a1.toNatClampNeg x19) fun w22 =>
  bd (a1 + 1) fun x23 =>
  rec2 (a0, x23, w22)
def f_M_layBest_l2 (N : Nat) (a0 : Nat) (a1 : Int32) (w : gW) : Option (Unit × gW) :=
  itr (fun rec (q : Nat × Int32 × gW) => f_M_layBest_b2 N rec q.1 q.2.1 q.2.2) N (a0, a1, w)
def f_M_layBest_b0 (N : Nat) (a0 : Nat) (w : gW) : Option (Unit × gW) :=
  f_M_layBest_l2 N a0 0 w
def f_M_layBest (N : Nat) (a0 : Nat) (w : gW) : Option (Unit × gW) := f_M_layBest_b0 N a0 w
def f_M_chooses_b97 (N : Nat) (rec13 : Nat × Int32 × Int32 × Int32 × Int32 × Int32 × gW → Option (Int32 × gW)) (a0 : Nat) (a1 : Int32) (a2 : Int32) (a3 : Int32) (a4 : Int32) (w : gW) : Option (Int32 × gW) :=
  gd ((sh w a0).1 = 12) <|
  kl (f_M_nextHand N a0 w) fun x10 w11 =>
  rec13 (a0, a1, a2, a3, a4, x10, w11)
def f_M_chooses_b79 (N : Nat) (rec13 : Nat × Int32 × Int32 × Int32 × Int32 × Int32 × gW → Option (Int32 × gW)) (a0 : Nat) (a1 : Int32) (a2 : Int32) (a6 : Int32) (w : gW) : Option (Int32 × gW) :=
  gd ((sh w a0).1 = 12) <|
  bd (gI w a0 32) fun x29 =>
  bd (sI w a0 34 x29) fun w30 =>
  gd ((sh w30 a0).1 = 12) <|
  kl (f_M_layBest N a0 w30) fun x31 w32 =>
  f_M_chooses_b97 N rec13 a0 a1 a2 1 a6 w32
def f_M_chooses_b66 (N : Nat) (rec13 : Nat × Int32 × Int32 × Int32 × Int32 × Int32 × gW → Option (Int32 × gW)) (a0 : Nat) (a1 : Int32) (a2 : Int32) (a3 : Int32) (a4 : Int32) (z0 : Int32) (w : gW) : Option (Int32 × gW) :=
  cd (a3 = 0) (
    f_M_chooses_b79 N rec13 a0 a1 a2 z0 w) <|
  cd (a4 ≤ z0) (
    f_M_chooses_b97 N rec13 a0 a1 a2 a3 a4 w) <|
  f_M_chooses_b79 N rec13 a0 a1 a2 z0 w
def f_M_chooses_b61 (N : Nat) (rec13 : Nat × Int32 × Int32 × Int32 × Int32 × Int32 × gW → Option (Int32 × gW)) (a0 : Nat) (a1 : Int32) (a2 : Int32) (a3 : Int32) (a4 : Int32) (w : gW) : Option (Int32 × gW) :=
  gd ((sh w a0).1 = 12) <|
  kl (f_M_badness N a0 a1 w) fun x24 w25 =>
  f_M_chooses_b66 N rec13 a0 a1 a2 a3 a4 x24 w25
def f_M_chooses_b13 (N : Nat) (rec13 : Nat × Int32 × Int32 × Int32 × Int32 × Int32 × gW → Option (Int32 × gW)) (a0 : Nat) (a1 : Int32) (a2 : Int32) (a3 : Int32) (a4 : Int32) (a5 : Int32) (w : gW) : Option (Int32 × gW) :=
  cd (a5 = 0) (
    gd (a3 = 0 ∨ a3 = 1) <|
    some (a3, w)) <|
  gd ((sh w a0).1 = 12) <|
  kl (f_M_pays N a0 a1 a2 w) fun x6 w7 =>
  cd (x6 = 0) (
    f_M_chooses_b97 N rec13 a0 a1 a2 a3 a4 w7) <|
  gd ((sh w7 a0).1 = 12) <|
  kl (f_M_isBarred N a0 a1 w7) fun x14 w15 =>
  cd (x14 = 0) (
  gd ((sh w15 a0).1 = 12) <|
  rr (gR w15 a0 2) fun x19 =>
  gd ((sh w15 x19).1 = 50) <|
  gd (¬ (a1 < 0 ∨ (sh w15 x19).2 ≤ a1.toNatClampNeg)) <|
  bd (gI w15 x19 a1.toNatClampNeg) fun x23 =>
  cd (x23 = 1) (
  bd (gI w15 a0 32) fun x35 =>
  cd (x35 = a2) (
  bd (gI w15 a0 33) fun x36 =>
  bd (-x36) fun x37 =>
  f_M_chooses_b66 N rec13 a0 a1 a2 a3 a4 x37 w15) <|
    f_M_chooses_b61 N rec13 a0 a1 a2 a3 a4 w15) <|
    f_M_chooses_b61 N rec13 a0 a1 a2 a3 a4 w15) <|
    f_M_chooses_b97 N rec13 a0 a1 a2 a3 a4 w15
def f_M_chooses_l13 (N : Nat) (a0 : Nat) (a1 : Int32) (a2 : Int32) (a3 : Int32) (a4 : Int32) (a5 : Int32) (w : gW) : Option (Int32 × gW) :=
  itr (fun rec (q : Nat × Int32 × Int32 × Int32 × Int32 × Int32 × gW) => f_M_chooses_b13 N rec q.1 q.2.1 q.2.2.1 q.2.2.2.1 q.2.2.2.2.1 q.2.2.2.2.2.1 q.2.2.2.2.2.2) N (a0, a1, a2, a3, a4, a5, w)
def f_M_chooses_b0 (N : Nat) (a0 : Nat) (a1 : Int32) (a2 : Int32) (w : gW) : Option (Int32 × gW) :=
  gd ((sh w a0).1 = 12) <|
  kl (f_M_layLimits N a0 a1 w) fun x1 w2 =>
  f_M_chooses_l13 N a0 a1 a2 0 0 1 w2
def f_M_chooses (N : Nat) (a0 : Nat) (a1 : Int32) (a2 : Int32) (w : gW) : Option (Int32 × gW) := f_M_chooses_b0 N a0 a1 a2 w
def f_M_coinsOf_b4 (N : Nat) (rec4 : Nat × Int32 × Int32 × gW → Option (Int32 × gW)) (a0 : Nat) (a1 : Int32) (a2 : Int32) (w : gW) : Option (Int32 × gW) :=
  cd ((6 : Int32) ≤ a2) (
    some (a1, w)) <|
  gd ((sh w a0).1 = 12) <|
  rr (gR w a0 30) fun x2 =>
  gd ((sh w x2).1 = 50) <|
  gd (¬ (a2 < 0 ∨ (sh w x2).2 ≤ a2.toNatClampNeg)) <|
  bd (gI w x2 a2.toNatClampNeg) fun x6 =>
  bd (a1 + x6) fun x7 =>
  bd (a2 + 1) fun x8 =>
  rec4 (a0, x7, x8, w)
def f_M_coinsOf_l4 (N : Nat) (a0 : Nat) (a1 : Int32) (a2 : Int32) (w : gW) : Option (Int32 × gW) :=
  itr (fun rec (q : Nat × Int32 × Int32 × gW) => f_M_coinsOf_b4 N rec q.1 q.2.1 q.2.2.1 q.2.2.2) N (a0, a1, a2, w)
def f_M_coinsOf_b0 (N : Nat) (a0 : Nat) (w : gW) : Option (Int32 × gW) :=
  f_M_coinsOf_l4 N a0 0 0 w
def f_M_coinsOf (N : Nat) (a0 : Nat) (w : gW) : Option (Int32 × gW) := f_M_coinsOf_b0 N a0 w
def f_M_goes_b105 (N : Nat) (z0 : Int32) (z1 : Int32) (z2 : Nat) (w : gW) : Option (Int32 × gW) :=
  gd ((sh w z2).1 = 50) <|
  gd (¬ (z1 < 0 ∨ (sh w z2).2 ≤ z1.toNatClampNeg)) <|
  bd (sI w z2 z1.toNatClampNeg z0) fun w13 =>
  some (1, w13)
def f_M_goes_b13 (N : Nat) (rec13 : Nat × Int32 × Int32 × gW → Option (Int32 × gW)) (a0 : Nat) (a1 : Int32) (a3 : Int32) (w : gW) : Option (Int32 × gW) :=
  cd ((6 : Int32) ≤ a3) (
    gd ((sh w a0).1 = 12) <|
    rr (gR w a0 4) fun x6 =>
    gd ((sh w x6).1 = 50) <|
    gd (¬ (a1 < 0 ∨ (sh w x6).2 ≤ a1.toNatClampNeg)) <|
    bd (gI w x6 a1.toNatClampNeg) fun x10 =>
    cd ((9999 : Int32) ≤ x10) (
      f_M_goes_b105 N 9999 a1 x6 w) <|
    bd (gI w x6 a1.toNatClampNeg) fun x14 =>
    bd (x14 + 1) fun x15 =>
    f_M_goes_b105 N x15 a1 x6 w) <|
  gd ((sh w a0).1 = 12) <|
  rr (gR w a0 7) fun x17 =>
  gd ((sh w x17).1 = 50) <|
  gd (¬ (a3 < 0 ∨ (sh w x17).2 ≤ a3.toNatClampNeg)) <|
  bd (gI w x17 a3.toNatClampNeg) fun x21 =>
  rr (gR w a0 30) fun x22 =>
  gd ((sh w x22).1 = 50) <|
  gd (¬ (a3 < 0 ∨ (sh w x22).2 ≤ a3.toNatClampNeg)) <|
  bd (gI w x22 a3.toNatClampNeg) fun x26 =>
  rr (gR w a0 31) fun x27 =>
  gd ((sh w x27).1 = 50) <|
  gd (¬ (a3 < 0 ∨ (sh w x27).2 ≤ a3.toNatClampNeg)) <|
  bd (gI w x27 a3.toNatClampNeg) fun x31 =>
  bd (x26 - x31) fun x32 =>
  bd (x21 + x32) fun x33 =>
  bd (sI w x17 a3.toNatClampNeg x33) fun w34 =>
  gd ((sh w34 a0).1 = 12) <|
  rr (gR w34 a0 6) fun x36 =>
  bd (6 * a1) fun x38 =>
  bd (x38 + a3) fun x39 =>
  gd ((sh w34 x36).1 = 50) <|
  gd (¬ (x39 < 0 ∨ (sh w34 x36).2 ≤ x39.toNatClampNeg)) <|
  bd (gI w34 x36 x39.toNatClampNeg) fun x42 =>
  rr (gR w34 a0 31) fun x43 =>
  gd ((sh w34 x43).1 = 50) <|
  gd (¬ (a3 < 0 ∨ (sh w34 x43).2 ≤ a3.toNatClampNeg)) <|
  bd (gI w34 x43 a3.toNatClampNeg) fun x47 =>
  rr (gR w34 a0 30) fun x48 =>
  gd ((sh w34 x48).1 = 50) <|
  gd (¬ (a3 < 0 ∨ (sh w34 x48).2 ≤ a3.toNatClampNeg)) <|
  bd (gI w34 x48 a3.toNatClampNeg) fun x52 =>
  bd (x47 - x52) fun x53 =>
  bd (x42 + x53) fun x54 =>
  bd (sI w34 x36 x39.toNatClampNeg x54) fun w55 =>
  bd (a3 + 1) fun x56 =>
  rec13 (a0, a1, x56, w55)
def f_M_goes_l13 (N : Nat) (a0 : Nat) (a1 : Int32) (a3 : Int32) (w : gW) : Option (Int32 × gW) :=
  itr (fun rec (q : Nat × Int32 × Int32 × gW) => f_M_goes_b13 N rec q.1 q.2.1 q.2.2.1 q.2.2.2) N (a0, a1, a3, w)
def f_M_goes_b0 (N : Nat) (a0 : Nat) (a1 : Int32) (a2 : Int32) (w : gW) : Option (Int32 × gW) :=
  gd ((sh w a0).1 = 12) <|
  kl (f_M_chooses N a0 a1 a2 w) fun x1 w2 =>
  cd (x1 = 0) (
  some (0, w2)) <|
    f_M_goes_l13 N a0 a1 0 w2
def f_M_goes (N : Nat) (a0 : Nat) (a1 : Int32) (a2 : Int32) (w : gW) : Option (Int32 × gW) := f_M_goes_b0 N a0 a1 a2 w
def f_M_pay_b0 (N : Nat) (a0 : Nat) (a1 : Int32) (a2 : Int32) (w : gW) : Option (Int32 × gW) :=
  gd ((sh w a0).1 = 12) <|
  kl (f_M_isPayer N a0 a1 w) fun x1 w2 =>
  cd (x1 = 0) (
  some ((-1), w2)) <|
    gd ((sh w2 a0).1 = 12) <|
    kl (f_M_isPrice N a0 a2 w2) fun x5 w6 =>
    cd (x5 = 0) (
    some ((-2), w6)) <|
      gd ((sh w6 a0).1 = 12) <|
      kl (f_M_goes N a0 a1 a2 w6) fun x9 w10 =>
      cd (x9 = 0) (
        some ((-3), w10)) <|
      gd ((sh w10 a0).1 = 12) <|
      kl (f_M_coinsOf N a0 w10) fun x13 w14 =>
      some (x13, w14)
def f_M_pay (N : Nat) (a0 : Nat) (a1 : Int32) (a2 : Int32) (w : gW) : Option (Int32 × gW) := f_M_pay_b0 N a0 a1 a2 w
def f_M_save_b54 (N : Nat) (rec54 : Nat × Int32 × gW → Option (Unit × gW)) (a0 : Nat) (a1 : Int32) (w : gW) : Option (Unit × gW) :=
  cd ((4 : Int32) ≤ a1) (
    some ((), w)) <|
  gd ((sh w a0).1 = 12) <|
  rr (gR w a0 37) fun x2 =>
  rr (gR w a0 4) fun x4 =>
  gd ((sh w x4).1 = 50) <|
  gd (¬ (a1 < 0 ∨ (sh w x4).2 ≤ a1.toNatClampNeg)) <|
  bd (gI w x4 a1.toNatClampNeg) fun x8 =>
  gd ((sh w x2).1 = 50) <|
  gd (¬ (a1 < 0 ∨ (sh w x2).2 ≤ a1.toNatClampNeg)) <|
  bd (sI w x2 a1.toNatClampNeg x8) fun w11 =>
  bd (a1 + 1) fun x12 =>
  rec54 (a0, x12, w11)
def f_M_save_l54 (N : Nat) (a0 : Nat) (a1 : Int32) (w : gW) : Option (Unit × gW) :=
  itr (fun rec (q : Nat × Int32 × gW) => f_M_save_b54 N rec q.1 q.2.1 q.2.2) N (a0, a1, w)
def f_M_save_b28 (N : Nat) (rec28 : Nat × Int32 × gW → Option (Unit × gW)) (a0 : Nat) (a1 : Int32) (w : gW) : Option (Unit × gW) :=
  cd ((6 : Int32) ≤ a1) (
    f_M_save_l54 N a0 0 w) <|
  gd ((sh w a0).1 = 12) <|
  rr (gR w a0 36) fun x14 =>
  rr (gR w a0 7) fun x16 =>
  gd ((sh w x16).1 = 50) <|
  gd (¬ (a1 < 0 ∨ (sh w x16).2 ≤ a1.toNatClampNeg)) <|
  bd (gI w x16 a1.toNatClampNeg) fun x20 =>
  gd ((sh w x14).1 = 50) <|
  gd (¬ (a1 < 0 ∨ (sh w x14).2 ≤ a1.toNatClampNeg)) <|
  bd (sI w x14 a1.toNatClampNeg x20) fun w23 =>
  bd (a1 + 1) fun x24 =>
  rec28 (a0, x24, w23)
def f_M_save_l28 (N : Nat) (a0 : Nat) (a1 : Int32) (w : gW) : Option (Unit × gW) :=
  itr (fun rec (q : Nat × Int32 × gW) => f_M_save_b28 N rec q.1 q.2.1 q.2.2) N (a0, a1, w)
def f_M_save_b2 (N : Nat) (rec2 : Nat × Int32 × gW → Option (Unit × gW)) (a0 : Nat) (a1 : Int32) (w : gW) : Option (Unit × gW) :=
  cd ((24 : Int32) ≤ a1) (
    f_M_save_l28 N a0 0 w) <|
  gd ((sh w a0).1 = 12) <|
  rr (gR w a0 35) fun x26 =>
  rr (gR w a0 6) fun x28 =>
  gd ((sh w x28).1 = 50) <|
  gd (¬ (a1 < 0 ∨ (sh w x28).2 ≤ a1.toNatClampNeg)) <|
  bd (gI w x28 a1.toNatClampNeg) fun x32 =>
  gd ((sh w x26).1 = 50) <|
  gd (¬ (a1 < 0 ∨ (sh w x26).2 ≤ a1.toNatClampNeg)) <|
  bd (sI w x26 a1.toNatClampNeg x32) fun w35 =>
  bd (a1 + 1) fun x36 =>
  rec2 (a0, x36, w35)
def f_M_save_l2 (N : Nat) (a0 : Nat) (a1 : Int32) (w : gW) : Option (Unit × gW) :=
  itr (fun rec (q : Nat × Int32 × gW) => f_M_save_b2 N rec q.1 q.2.1 q.2.2) N (a0, a1, w)
def f_M_save_b0 (N : Nat) (a0 : Nat) (w : gW) : Option (Unit × gW) :=
  f_M_save_l2 N a0 0 w
def f_M_save (N : Nat) (a0 : Nat) (w : gW) : Option (Unit × gW) := f_M_save_b0 N a0 w
def f_M_putBack_b54 (N : Nat) (rec54 : Nat × Int32 × gW → Option (Unit × gW)) (a0 : Nat) (a1 : Int32) (w : gW) : Option (Unit × gW) :=
  cd ((4 : Int32) ≤ a1) (
    some ((), w)) <|
  gd ((sh w a0).1 = 12) <|
  rr (gR w a0 4) fun x2 =>
  rr (gR w a0 37) fun x4 =>
  gd ((sh w x4).1 = 50) <|
  gd (¬ (a1 < 0 ∨ (sh w x4).2 ≤ a1.toNatClampNeg)) <|
  bd (gI w x4 a1.toNatClampNeg) fun x8 =>
  gd ((sh w x2).1 = 50) <|
  gd (¬ (a1 < 0 ∨ (sh w x2).2 ≤ a1.toNatClampNeg)) <|
  bd (sI w x2 a1.toNatClampNeg x8) fun w11 =>
  bd (a1 + 1) fun x12 =>
  rec54 (a0, x12, w11)
def f_M_putBack_l54 (N : Nat) (a0 : Nat) (a1 : Int32) (w : gW) : Option (Unit × gW) :=
  itr (fun rec (q : Nat × Int32 × gW) => f_M_putBack_b54 N rec q.1 q.2.1 q.2.2) N (a0, a1, w)
def f_M_putBack_b28 (N : Nat) (rec28 : Nat × Int32 × gW → Option (Unit × gW)) (a0 : Nat) (a1 : Int32) (w : gW) : Option (Unit × gW) :=
  cd ((6 : Int32) ≤ a1) (
    f_M_putBack_l54 N a0 0 w) <|
  gd ((sh w a0).1 = 12) <|
  rr (gR w a0 7) fun x14 =>
  rr (gR w a0 36) fun x16 =>
  gd ((sh w x16).1 = 50) <|
  gd (¬ (a1 < 0 ∨ (sh w x16).2 ≤ a1.toNatClampNeg)) <|
  bd (gI w x16 a1.toNatClampNeg) fun x20 =>
  gd ((sh w x14).1 = 50) <|
  gd (¬ (a1 < 0 ∨ (sh w x14).2 ≤ a1.toNatClampNeg)) <|
  bd (sI w x14 a1.toNatClampNeg x20) fun w23 =>
  bd (a1 + 1) fun x24 =>
  rec28 (a0, x24, w23)
def f_M_putBack_l28 (N : Nat) (a0 : Nat) (a1 : Int32) (w : gW) : Option (Unit × gW) :=
  itr (fun rec (q : Nat × Int32 × gW) => f_M_putBack_b28 N rec q.1 q.2.1 q.2.2) N (a0, a1, w)
def f_M_putBack_b2 (N : Nat) (rec2 : Nat × Int32 × gW → Option (Unit × gW)) (a0 : Nat) (a1 : Int32) (w : gW) : Option (Unit × gW) :=
  cd ((24 : Int32) ≤ a1) (
    f_M_putBack_l28 N a0 0 w) <|
  gd ((sh w a0).1 = 12) <|
  rr (gR w a0 6) fun x26 =>
  rr (gR w a0 35) fun x28 =>
  gd ((sh w x28).1 = 50) <|
  gd (¬ (a1 < 0 ∨ (sh w x28).2 ≤ a1.toNatClampNeg)) <|
  bd (gI w x28 a1.toNatClampNeg) fun x32 =>
  gd ((sh w x26).1 = 50) <|
  gd (¬ (a1 < 0 ∨ (sh w x26).2 ≤ a1.toNatClampNeg)) <|
  bd (sI w x26 a1.toNatClampNeg x32) fun w35 =>
  bd (a1 + 1) fun x36 =>
  rec2 (a0, x36, w35)
def f_M_putBack_l2 (N : Nat) (a0 : Nat) (a1 : Int32) (w : gW) : Option (Unit × gW) :=
  itr (fun rec (q : Nat × Int32 × gW) => f_M_putBack_b2 N rec q.1 q.2.1 q.2.2) N (a0, a1, w)
def f_M_putBack_b0 (N : Nat) (a0 : Nat) (w : gW) : Option (Unit × gW) :=
  f_M_putBack_l2 N a0 0 w
def f_M_putBack (N : Nat) (a0 : Nat) (w : gW) : Option (Unit × gW) := f_M_putBack_b0 N a0 w
def f_M_could_b0 (N : Nat) (a0 : Nat) (a1 : Int32) (a2 : Int32) (w : gW) : Option (Int32 × gW) :=
  gd ((sh w a0).1 = 12) <|
  kl (f_M_save N a0 w) fun x1 w2 =>
  gd ((sh w2 a0).1 = 12) <|
  kl (f_M_goes N a0 a1 a2 w2) fun x5 w6 =>
  gd ((sh w6 a0).1 = 12) <|
  kl (f_M_weight N a0 a1 w6) fun x9 w10 =>
  gd ((sh w10 a0).1 = 12) <|
  bd (sI w10 a0 38 x9) fun w14 =>
  gd ((sh w14 a0).1 = 12) <|
  kl (f_M_coins N a0 a1 w14) fun x15 w16 =>
  gd ((sh w16 a0).1 = 12) <|
  bd (sI w16 a0 39 x15) fun w20 =>
  gd ((sh w20 a0).1 = 12) <|
  kl (f_M_putBack N a0 w20) fun x21 w22 =>
  gd (x5 = 0 ∨ x5 = 1) <|
  some (x5, w22)
def f_M_could (N : Nat) (a0 : Nat) (a1 : Int32) (a2 : Int32) (w : gW) : Option (Int32 × gW) := f_M_could_b0 N a0 a1 a2 w
def f_M_would_b44 (N : Nat) (a0 : Nat) (a1 : Int32) (a2 : Int32) (a3 : Int32) (w : gW) : Option (Int32 × gW) :=
  gd ((sh w a0).1 = 12) <|
  kl (f_M_isPrice N a0 a2 w) fun x9 w10 =>
  cd (x9 = 0) (
  some ((-2), w10)) <|
    gd ((sh w10 a0).1 = 12) <|
    kl (f_M_could N a0 a1 a2 w10) fun x13 w14 =>
    cd (x13 = 0) (
    some ((-5), w14)) <|
      cd (a3 ≤ 2) (
        cd (a3 = 0) (
        gd ((sh w14 a0).1 = 12) <|
        bd (gI w14 a0 34) fun x22 =>
        some (x22, w14)) <|
          cd (a3 = 1) (
          gd ((sh w14 a0).1 = 12) <|
          bd (gI w14 a0 39) fun x20 =>
          some (x20, w14)) <|
            gd ((sh w14 a0).1 = 12) <|
            bd (gI w14 a0 38) fun x18 =>
            some (x18, w14)) <|
      cd ((20 : Int32) ≤ a3) (
        gd ((sh w14 a0).1 = 12) <|
        rr (gR w14 a0 31) fun x24 =>
        bd (a3 - 20) fun x26 =>
        gd ((sh w14 x24).1 = 50) <|
        gd (¬ (x26 < 0 ∨ (sh w14 x24).2 ≤ x26.toNatClampNeg)) <|
        bd (gI w14 x24 x26.toNatClampNeg) fun x29 =>
        some (x29, w14)) <|
      gd ((sh w14 a0).1 = 12) <|
      rr (gR w14 a0 30) fun x31 =>
      bd (a3 - 10) fun x33 =>
      gd ((sh w14 x31).1 = 50) <|
      gd (¬ (x33 < 0 ∨ (sh w14 x31).2 ≤ x33.toNatClampNeg)) <|
      bd (gI w14 x31 x33.toNatClampNeg) fun x36 =>
      some (x36, w14)
def f_M_would_b0 (N : Nat) (a0 : Nat) (a1 : Int32) (a2 : Int32) (a3 : Int32) (w : gW) : Option (Int32 × gW) :=
  gd ((sh w a0).1 = 12) <|
  kl (f_M_isPayer N a0 a1 w) fun x1 w2 =>
  cd (x1 = 0) (
    some ((-1), w2)) <|
  gd ((sh w2 a0).1 = 12) <|
  kl (f_M_in N a0 a3 0 2 w2) fun x5 w6 =>
  cd (x5 = 0) (
  gd ((sh w6 a0).1 = 12) <|
  kl (f_M_in N a0 a3 10 15 w6) fun x37 w38 =>
  cd (x37 = 0) (
  gd ((sh w38 a0).1 = 12) <|
  kl (f_M_in N a0 a3 20 25 w38) fun x41 w42 =>
  cd (x41 = 0) (
  some ((-1), w42)) <|
    f_M_would_b44 N a0 a1 a2 a3 w42) <|
    f_M_would_b44 N a0 a1 a2 a3 w38) <|
    f_M_would_b44 N a0 a1 a2 a3 w6
def f_M_would (N : Nat) (a0 : Nat) (a1 : Int32) (a2 : Int32) (a3 : Int32) (w : gW) : Option (Int32 × gW) := f_M_would_b0 N a0 a1 a2 a3 w
def f_M_least_b97 (N : Nat) (rec43 : Nat × Int32 × Int32 × Int32 × Int32 × Int32 × gW → Option (Int32 × gW)) (a0 : Nat) (a1 : Int32) (a2 : Int32) (a3 : Int32) (a4 : Int32) (w : gW) : Option (Int32 × gW) :=
  gd ((sh w a0).1 = 12) <|
  kl (f_M_nextHand N a0 w) fun x21 w22 =>
  rec43 (a0, a1, a2, a3, a4, x21, w22)
def f_M_least_b95 (N : Nat) (rec43 : Nat × Int32 × Int32 × Int32 × Int32 × Int32 × gW → Option (Int32 × gW)) (a0 : Nat) (a1 : Int32) (a2 : Int32) (a3 : Int32) (z0 : Int32) (w : gW) : Option (Int32 × gW) :=
  f_M_least_b97 N rec43 a0 a1 a2 a3 z0 w
def f_M_least_b88 (N : Nat) (rec43 : Nat × Int32 × Int32 × Int32 × Int32 × Int32 × gW → Option (Int32 × gW)) (a0 : Nat) (a1 : Int32) (a2 : Int32) (a3 : Int32) (a6 : Int32) (w : gW) : Option (Int32 × gW) :=
  f_M_least_b95 N rec43 a0 a1 a2 a3 a6 w
def f_M_least_b74 (N : Nat) (rec43 : Nat × Int32 × Int32 × Int32 × Int32 × Int32 × gW → Option (Int32 × gW)) (a0 : Nat) (a1 : Int32) (a2 : Int32) (a3 : Int32) (a4 : Int32) (z0 : Int32) (w : gW) : Option (Int32 × gW) :=
  cd (a4 < 0) (
    f_M_least_b88 N rec43 a0 a1 a2 a3 z0 w) <|
  cd (a4 ≤ z0) (
    f_M_least_b95 N rec43 a0 a1 a2 a3 a4 w) <|
  f_M_least_b88 N rec43 a0 a1 a2 a3 z0 w
def f_M_least_b43 (N : Nat) (rec43 : Nat × Int32 × Int32 × Int32 × Int32 × Int32 × gW → Option (Int32 × gW)) (a0 : Nat) (a1 : Int32) (a2 : Int32) (a3 : Int32) (a4 : Int32) (a5 : Int32) (w : gW) : Option (Int32 × gW) :=
  cd (a5 = 0) (
    some (a4, w)) <|
  gd ((sh w a0).1 = 12) <|
  kl (f_M_pays N a0 a1 a2 w) fun x17 w18 =>
  cd (x17 = 0) (
    f_M_least_b97 N rec43 a0 a1 a2 a3 a4 w18) <|
  cd (a3 = 0) (
  gd ((sh w18 a0).1 = 12) <|
  kl (f_M_weightBehind N a0 a1 w18) fun x29 w30 =>
  f_M_least_b74 N rec43 a0 a1 a2 a3 a4 x29 w30) <|
    gd ((sh w18 a0).1 = 12) <|
    kl (f_M_coinsBehind N a0 a1 w18) fun x25 w26 =>
    f_M_least_b74 N rec43 a0 a1 a2 a3 a4 x25 w26
def f_M_least_l43 (N : Nat) (a0 : Nat) (a1 : Int32) (a2 : Int32) (a3 : Int32) (a4 : Int32) (a5 : Int32) (w : gW) : Option (Int32 × gW) :=
  itr (fun rec (q : Nat × Int32 × Int32 × Int32 × Int32 × Int32 × gW) => f_M_least_b43 N rec q.1 q.2.1 q.2.2.1 q.2.2.2.1 q.2.2.2.2.1 q.2.2.2.2.2.1 q.2.2.2.2.2.2) N (a0, a1, a2, a3, a4, a5, w)
def f_M_least_b0 (N : Nat) (a0 : Nat) (a1 : Int32) (a2 : Int32) (a3 : Int32) (w : gW) : Option (Int32 × gW) :=
  gd ((sh w a0).1 = 12) <|
  kl (f_M_isPayer N a0 a1 w) fun x1 w2 =>
  cd (x1 = 0) (
    some ((-1), w2)) <|
  gd ((sh w2 a0).1 = 12) <|
  kl (f_M_in N a0 a3 0 1 w2) fun x5 w6 =>
  cd (x5 = 0) (
  some ((-1), w6)) <|
    gd ((sh w6 a0).1 = 12) <|
    kl (f_M_isPrice N a0 a2 w6) fun x9 w10 =>
    cd (x9 = 0) (
    some ((-2), w10)) <|
      gd ((sh w10 a0).1 = 12) <|
      kl (f_M_layLimits N a0 a1 w10) fun x13 w14 =>
      f_M_least_l43 N a0 a1 a2 a3 (-5) 1 w14
def f_M_least (N : Nat) (a0 : Nat) (a1 : Int32) (a2 : Int32) (a3 : Int32) (w : gW) : Option (Int32 × gW) := f_M_least_b0 N a0 a1 a2 a3 w
def f_M_exactly_b94 (N : Nat) (rec94 : Nat × Int32 × Int32 × gW → Option (Int32 × gW)) (a0 : Nat) (a3 : Int32) (a4 : Int32) (w : gW) : Option (Int32 × gW) :=
  cd ((61 : Int32) ≤ a4) (
    some (a3, w)) <|
  gd ((sh w a0).1 = 12) <|
  rr (gR w a0 40) fun x10 =>
  gd ((sh w x10).1 = 53) <|
  gd (¬ (a4 < 0 ∨ (sh w x10).2 ≤ a4.toNatClampNeg)) <|
  bd (gI w x10 a4.toNatClampNeg) fun x14 =>
  cd (x14 = 0) (
    bd (a3 + 0) fun x15 =>
    bd (a4 + 1) fun x16 =>
    rec94 (a0, x15, x16, w)) <|
  bd (a3 + 1) fun x17 =>
  bd (a4 + 1) fun x18 =>
  rec94 (a0, x17, x18, w)
def f_M_exactly_l94 (N : Nat) (a0 : Nat) (a3 : Int32) (a4 : Int32) (w : gW) : Option (Int32 × gW) :=
  itr (fun rec (q : Nat × Int32 × Int32 × gW) => f_M_exactly_b94 N rec q.1 q.2.1 q.2.2.1 q.2.2.2) N (a0, a3, a4, w)
def f_M_exactly_b81 (N : Nat) (rec38 : Nat × Int32 × Int32 × gW → Option (Int32 × gW)) (a0 : Nat) (a1 : Int32) (w : gW) : Option (Int32 × gW) :=
  gd ((sh w a0).1 = 12) <|
  kl (f_M_nextHand N a0 w) fun x28 w29 =>
  rec38 (a0, a1, x28, w29)
def f_M_exactly_b38 (N : Nat) (rec38 : Nat × Int32 × Int32 × gW → Option (Int32 × gW)) (a0 : Nat) (a1 : Int32) (a2 : Int32) (w : gW) : Option (Int32 × gW) :=
  cd (a2 = 0) (
    f_M_exactly_l94 N a0 0 1 w) <|
  gd ((sh w a0).1 = 12) <|
  kl (f_M_laySum N a0 w) fun x19 w20 =>
  gd ((sh w20 a0).1 = 12) <|
  bd (gI w20 a0 32) fun x24 =>
  kl (f_M_in N a0 x24 1 60 w20) fun x25 w26 =>
  cd (x25 = 0) (
    f_M_exactly_b81 N rec38 a0 a1 w26) <|
  gd ((sh w26 a0).1 = 12) <|
  rr (gR w26 a0 40) fun x33 =>
  bd (gI w26 a0 32) fun x35 =>
  gd ((sh w26 x33).1 = 53) <|
  gd (¬ (x35 < 0 ∨ (sh w26 x33).2 ≤ x35.toNatClampNeg)) <|
  bd (gI w26 x33 x35.toNatClampNeg) fun x38 =>
  bd (gI w26 a0 32) fun x39 =>
  kl (f_M_pays N a0 a1 x39 w26) fun x40 w41 =>
  bd (x38 ||| x40) fun x43 =>
  gd ((sh w41 x33).1 = 53) <|
  gd (¬ (x35 < 0 ∨ (sh w41 x33).2 ≤ x35.toNatClampNeg)) <|
  bd (sI w41 x33 x35.toNatClampNeg (vp_nar .boolean x43)) fun w46 =>
  f_M_exactly_b81 N rec38 a0 a1 w46
def f_M_exactly_l38 (N : Nat) (a0 : Nat) (a1 : Int32) (a2 : Int32) (w : gW) : Option (Int32 × gW) :=
  itr (fun rec (q : Nat × Int32 × Int32 × gW) => f_M_exactly_b38 N rec q.1 q.2.1 q.2.2.1 q.2.2.2) N (a0, a1, a2, w)
def f_M_exactly_b17 (N : Nat) (rec17 : Nat × Int32 × Int32 × gW → Option (Int32 × gW)) (a0 : Nat) (a1 : Int32) (a2 : Int32) (w : gW) : Option (Int32 × gW) :=
  cd ((61 : Int32) ≤ a2) (
    f_M_exactly_l38 N a0 a1 1 w) <|
  gd ((sh w a0).1 = 12) <|
  rr (gR w a0 40) fun x48 =>
  gd ((sh w x48).1 = 53) <|
  gd (¬ (a2 < 0 ∨ (sh w x48).2 ≤ a2.toNatClampNeg)) <|
  bd (sI w x48 a2.toNatClampNeg (vp_nar .boolean 0)) fun w52 =>
  bd (a2 + 1) fun x53 =>
  rec17 (a0, a1, x53, w52)
def f_M_exactly_l17 (N : Nat) (a0 : Nat) (a1 : Int32) (a2 : Int32) (w : gW) : Option (Int32 × gW) :=
  itr (fun rec (q : Nat × Int32 × Int32 × gW) => f_M_exactly_b17 N rec q.1 q.2.1 q.2.2.1 q.2.2.2) N (a0, a1, a2, w)
def f_M_exactly_b0 (N : Nat) (a0 : Nat) (a1 : Int32) (w : gW) : Option (Int32 × gW) :=
  gd ((sh w a0).1 = 12) <|
  kl (f_M_isPayer N a0 a1 w) fun x1 w2 =>
  cd (x1 = 0) (
  some ((-1), w2)) <|
    gd ((sh w2 a0).1 = 12) <|
    kl (f_M_layLimits N a0 a1 w2) fun x5 w6 =>
    f_M_exactly_l17 N a0 a1 0 w6
def f_M_exactly (N : Nat) (a0 : Nat) (a1 : Int32) (w : gW) : Option (Int32 × gW) := f_M_exactly_b0 N a0 a1 w
def f_M_price_b0 (N : Nat) (a0 : Nat) (a1 : Int32) (w : gW) : Option (Int32 × gW) :=
  cd (a1 = (-1)) (
  gd ((sh w a0).1 = 12) <|
  bd (sI w a0 41 0) fun w20 =>
  some (0, w20)) <|
    gd ((sh w a0).1 = 12) <|
    kl (f_M_isPrice N a0 a1 w) fun x1 w2 =>
    cd (x1 = 0) (
    some ((-2), w2)) <|
      gd ((sh w2 a0).1 = 12) <|
      bd (gI w2 a0 41) fun x6 =>
      cd (x6 = 4) (
      some ((-4), w2)) <|
        rr (gR w2 a0 42) fun x7 =>
        bd (gI w2 a0 41) fun x9 =>
        gd ((sh w2 x7).1 = 50) <|
        gd (¬ (x9 < 0 ∨ (sh w2 x7).2 ≤ x9.toNatClampNeg)) <|
        bd (sI w2 x7 x9.toNatClampNeg a1) fun w12 =>
        gd ((sh w12 a0).1 = 12) <|
        bd (gI w12 a0 41) fun x14 =>
        bd (x14 + 1) fun x15 =>
        bd (sI w12 a0 41 x15) fun w16 =>
        gd ((sh w16 a0).1 = 12) <|
        bd (gI w16 a0 41) fun x18 =>
        some (x18, w16)
def f_M_price (N : Nat) (a0 : Nat) (a1 : Int32) (w : gW) : Option (Int32 × gW) := f_M_price_b0 N a0 a1 w
def f_M_goesRow_b8 (N : Nat) (rec8 : Nat × Int32 × Int32 × Int32 × gW → Option (Int32 × gW)) (a0 : Nat) (a1 : Int32) (a2 : Int32) (a3 : Int32) (w : gW) : Option (Int32 × gW) :=
  gd ((sh w a0).1 = 12) <|
  bd (gI w a0 41) fun x6 =>
  cd (x6 ≤ a3) (
    kl (f_M_weight N a0 a1 w) fun x7 w8 =>
    gd ((sh w8 a0).1 = 12) <|
    bd (sI w8 a0 38 x7) fun w11 =>
    gd ((sh w11 a0).1 = 12) <|
    kl (f_M_coins N a0 a1 w11) fun x12 w13 =>
    gd ((sh w13 a0).1 = 12) <|
    bd (sI w13 a0 39 x12) fun w17 =>
    gd ((sh w17 a0).1 = 12) <|
    kl (f_M_putBack N a0 w17) fun x18 w19 =>
    some (a2, w19)) <|
  rr (gR w a0 42) fun x22 =>
  gd ((sh w x22).1 = 50) <|
  gd (¬ (a3 < 0 ∨ (sh w x22).2 ≤ a3.toNatClampNeg)) <|
  bd (gI w x22 a3.toNatClampNeg) fun x26 =>
  kl (f_M_goes N a0 a1 x26 w) fun x27 w28 =>
  cd (x27 = 0) (
    bd (a2 + 0) fun x30 =>
    bd (a3 + 1) fun x31 =>
    rec8 (a0, a1, x30, x31, w28)) <|
  bd (a2 + 1) fun x32 =>
  bd (a3 + 1) fun x33 =>
  rec8 (a0, a1, x32, x33, w28)
def f_M_goesRow_l8 (N : Nat) (a0 : Nat) (a1 : Int32) (a2 : Int32) (a3 : Int32) (w : gW) : Option (Int32 × gW) :=
  itr (fun rec (q : Nat × Int32 × Int32 × Int32 × gW) => f_M_goesRow_b8 N rec q.1 q.2.1 q.2.2.1 q.2.2.2.1 q.2.2.2.2) N (a0, a1, a2, a3, w)
def f_M_goesRow_b0 (N : Nat) (a0 : Nat) (a1 : Int32) (w : gW) : Option (Int32 × gW) :=
  gd ((sh w a0).1 = 12) <|
  kl (f_M_save N a0 w) fun x1 w2 =>
  f_M_goesRow_l8 N a0 a1 0 0 w2
def f_M_goesRow (N : Nat) (a0 : Nat) (a1 : Int32) (w : gW) : Option (Int32 × gW) := f_M_goesRow_b0 N a0 a1 w
def f_M_behind_b0 (N : Nat) (a0 : Nat) (a1 : Int32) (a2 : Int32) (w : gW) : Option (Int32 × gW) :=
  gd ((sh w a0).1 = 12) <|
  kl (f_M_isPayer N a0 a1 w) fun x1 w2 =>
  cd (x1 = 0) (
    some ((-1), w2)) <|
  gd ((sh w2 a0).1 = 12) <|
  kl (f_M_in N a0 a2 0 2 w2) fun x5 w6 =>
  cd (x5 = 0) (
  some ((-1), w6)) <|
    gd ((sh w6 a0).1 = 12) <|
    kl (f_M_goesRow N a0 a1 w6) fun x9 w10 =>
    cd (a2 = 0) (
    gd ((sh w10 a0).1 = 12) <|
    bd (gI w10 a0 38) fun x16 =>
    some (x16, w10)) <|
      cd (a2 = 1) (
      gd ((sh w10 a0).1 = 12) <|
      bd (gI w10 a0 39) fun x14 =>
      some (x14, w10)) <|
        some (x9, w10)
def f_M_behind (N : Nat) (a0 : Nat) (a1 : Int32) (a2 : Int32) (w : gW) : Option (Int32 × gW) := f_M_behind_b0 N a0 a1 a2 w
def f_M_who_b42 (N : Nat) (rec7 : Nat × Int32 × Int32 × Int32 × gW → Option (Int32 × gW)) (a0 : Nat) (a3 : Int32) (w : gW) : Option (Int32 × gW) :=
  gd ((sh w a0).1 = 12) <|
  bd (gI w a0 39) fun x10 =>
  bd (a3 + 1) fun x11 =>
  rec7 (a0, a3, x10, x11, w)
def f_M_who_b7 (N : Nat) (rec7 : Nat × Int32 × Int32 × Int32 × gW → Option (Int32 × gW)) (a0 : Nat) (a1 : Int32) (a2 : Int32) (a3 : Int32) (w : gW) : Option (Int32 × gW) :=
  gd ((sh w a0).1 = 12) <|
  bd (gI w a0 0) fun x2 =>
  cd (x2 ≤ a3) (
    some (a1, w)) <|
  kl (f_M_goesRow N a0 a3 w) fun x3 w4 =>
  gd ((sh w4 a0).1 = 12) <|
  bd (gI w4 a0 41) fun x7 =>
  cd (x3 < x7) (
    bd (a3 + 1) fun x8 =>
    rec7 (a0, a1, a2, x8, w4)) <|
  cd (a1 < 0) (
    f_M_who_b42 N rec7 a0 a3 w4) <|
  bd (gI w4 a0 39) fun x12 =>
  cd (x12 < a2) (
    f_M_who_b42 N rec7 a0 a3 w4) <|
  bd (a3 + 1) fun x13 =>
  rec7 (a0, a1, a2, x13, w4)
def f_M_who_l7 (N : Nat) (a0 : Nat) (a1 : Int32) (a2 : Int32) (a3 : Int32) (w : gW) : Option (Int32 × gW) :=
  itr (fun rec (q : Nat × Int32 × Int32 × Int32 × gW) => f_M_who_b7 N rec q.1 q.2.1 q.2.2.1 q.2.2.2.1 q.2.2.2.2) N (a0, a1, a2, a3, w)
def f_M_who_b0 (N : Nat) (a0 : Nat) (w : gW) : Option (Int32 × gW) :=
  f_M_who_l7 N a0 (-5) 0 0 w
def f_M_who (N : Nat) (a0 : Nat) (w : gW) : Option (Int32 × gW) := f_M_who_b0 N a0 w
def f_M_next_b50 (N : Nat) (rec18 : Nat × Int32 × Int32 × Int32 × Int32 × gW → Option (Int32 × gW)) (a0 : Nat) (a1 : Int32) (a4 : Int32) (w : gW) : Option (Int32 × gW) :=
  gd ((sh w a0).1 = 12) <|
  bd (gI w a0 39) fun x11 =>
  bd (a4 + 1) fun x12 =>
  rec18 (a0, a1, a4, x11, x12, w)
def f_M_next_b18 (N : Nat) (rec18 : Nat × Int32 × Int32 × Int32 × Int32 × gW → Option (Int32 × gW)) (a0 : Nat) (a1 : Int32) (a2 : Int32) (a3 : Int32) (a4 : Int32) (w : gW) : Option (Int32 × gW) :=
  cd ((31 : Int32) ≤ a4) (
    some (a2, w)) <|
  gd ((sh w a0).1 = 12) <|
  kl (f_M_could N a0 a1 a4 w) fun x5 w6 =>
  cd (x5 = 0) (
    bd (a4 + 1) fun x9 =>
    rec18 (a0, a1, a2, a3, x9, w6)) <|
  cd (a2 < 0) (
    f_M_next_b50 N rec18 a0 a1 a4 w6) <|
  gd ((sh w6 a0).1 = 12) <|
  bd (gI w6 a0 39) fun x14 =>
  cd (x14 < a3) (
    f_M_next_b50 N rec18 a0 a1 a4 w6) <|
  bd (a4 + 1) fun x15 =>
  rec18 (a0, a1, a2, a3, x15, w6)
def f_M_next_l18 (N : Nat) (a0 : Nat) (a1 : Int32) (a2 : Int32) (a3 : Int32) (a4 : Int32) (w : gW) : Option (Int32 × gW) :=
  itr (fun rec (q : Nat × Int32 × Int32 × Int32 × Int32 × gW) => f_M_next_b18 N rec q.1 q.2.1 q.2.2.1 q.2.2.2.1 q.2.2.2.2.1 q.2.2.2.2.2) N (a0, a1, a2, a3, a4, w)
def f_M_next_b0 (N : Nat) (a0 : Nat) (a1 : Int32) (w : gW) : Option (Int32 × gW) :=
  gd ((sh w a0).1 = 12) <|
  kl (f_M_isPayer N a0 a1 w) fun x1 w2 =>
  cd (x1 = 0) (
  some ((-1), w2)) <|
    f_M_next_l18 N a0 a1 (-5) 0 1 w2
def f_M_next (N : Nat) (a0 : Nat) (a1 : Int32) (w : gW) : Option (Int32 × gW) := f_M_next_b0 N a0 a1 w
def f_M_shortOf_b49 (N : Nat) (rec49 : Nat × Int32 × Int32 × Int32 × gW → Option (Int32 × gW)) (a0 : Nat) (a1 : Int32) (a2 : Int32) (a3 : Int32) (w : gW) : Option (Int32 × gW) :=
  cd ((61 : Int32) ≤ a3) (
    some ((-5), w)) <|
  cd (a2 < a3) (
    some ((-5), w)) <|
  gd ((sh w a0).1 = 12) <|
  kl (f_M_chooses N a0 a1 a3 w) fun x5 w6 =>
  cd (x5 = 0) (
  some (a3, w6)) <|
    bd (a3 + 1) fun x9 =>
    rec49 (a0, a1, a2, x9, w6)
def f_M_shortOf_l49 (N : Nat) (a0 : Nat) (a1 : Int32) (a2 : Int32) (a3 : Int32) (w : gW) : Option (Int32 × gW) :=
  itr (fun rec (q : Nat × Int32 × Int32 × Int32 × gW) => f_M_shortOf_b49 N rec q.1 q.2.1 q.2.2.1 q.2.2.2.1 q.2.2.2.2) N (a0, a1, a2, a3, w)
def f_M_shortOf_b14 (N : Nat) (rec14 : Nat × Int32 × Int32 × Int32 × gW → Option (Int32 × gW)) (a0 : Nat) (a1 : Int32) (a2 : Int32) (a3 : Int32) (w : gW) : Option (Int32 × gW) :=
  cd ((6 : Int32) ≤ a3) (
    f_M_shortOf_l49 N a0 a1 a2 1 w) <|
  gd ((sh w a0).1 = 12) <|
  rr (gR w a0 6) fun x11 =>
  bd (6 * a1) fun x13 =>
  bd (x13 + a3) fun x14 =>
  gd ((sh w x11).1 = 50) <|
  gd (¬ (x14 < 0 ∨ (sh w x11).2 ≤ x14.toNatClampNeg)) <|
  bd (gI w x11 x14.toNatClampNeg) fun x17 =>
  rr (gR w a0 1) fun x18 =>
  gd ((sh w x18).1 = 50) <|
  gd (¬ (a3 < 0 ∨ (sh w x18).2 ≤ a3.toNatClampNeg)) <|
  bd (gI w x18 a3.toNatClampNeg) fun x22 =>
  bd (x17 * x22) fun x23 =>
  bd (a2 + x23) fun x24 =>
  bd (a3 + 1) fun x25 =>
  rec14 (a0, a1, x24, x25, w)
def f_M_shortOf_l14 (N : Nat) (a0 : Nat) (a1 : Int32) (a2 : Int32) (a3 : Int32) (w : gW) : Option (Int32 × gW) :=
  itr (fun rec (q : Nat × Int32 × Int32 × Int32 × gW) => f_M_shortOf_b14 N rec q.1 q.2.1 q.2.2.1 q.2.2.2.1 q.2.2.2.2) N (a0, a1, a2, a3, w)
def f_M_shortOf_b0 (N : Nat) (a0 : Nat) (a1 : Int32) (w : gW) : Option (Int32 × gW) :=
  gd ((sh w a0).1 = 12) <|
  kl (f_M_isPayer N a0 a1 w) fun x1 w2 =>
  cd (x1 = 0) (
  some ((-1), w2)) <|
    f_M_shortOf_l14 N a0 a1 0 0 w2
def f_M_shortOf (N : Nat) (a0 : Nat) (a1 : Int32) (w : gW) : Option (Int32 × gW) := f_M_shortOf_b0 N a0 a1 w
def f_M_more_b78 (N : Nat) (a0 : Nat) (a1 : Int32) (a2 : Int32) (a3 : Int32) (a4 : Int32) (a5 : Int32) (z0 : Int32) (z1 : Int32) (z2 : Nat) (w : gW) : Option (Int32 × gW) :=
  gd ((sh w z2).1 = 50) <|
  gd (¬ (z1 < 0 ∨ (sh w z2).2 ≤ z1.toNatClampNeg)) <|
  bd (sI w z2 z1.toNatClampNeg z0) fun w26 =>
  gd ((sh w26 a0).1 = 12) <|
  kl (f_M_could N a0 a1 a2 w26) fun x27 w28 =>
  gd ((sh w28 a0).1 = 12) <|
  bd (gI w28 a0 38) fun x32 =>
  rr (gR w28 a0 7) fun x33 =>
  gd ((sh w28 x33).1 = 50) <|
  gd (¬ (a3 < 0 ∨ (sh w28 x33).2 ≤ a3.toNatClampNeg)) <|
  bd (sI w28 x33 a3.toNatClampNeg a5) fun w37 =>
  cd (x27 = 0) (
    some (0, w37)) <|
  bd (x32 - a4) fun x38 =>
  some (x38, w37)
def f_M_more_b0 (N : Nat) (a0 : Nat) (a1 : Int32) (a2 : Int32) (a3 : Int32) (w : gW) : Option (Int32 × gW) :=
  gd ((sh w a0).1 = 12) <|
  kl (f_M_isPayer N a0 a1 w) fun x1 w2 =>
  cd (x1 = 0) (
    some ((-100001), w2)) <|
  gd ((sh w2 a0).1 = 12) <|
  kl (f_M_isSort N a0 a3 w2) fun x5 w6 =>
  cd (x5 = 0) (
  some ((-100001), w6)) <|
    gd ((sh w6 a0).1 = 12) <|
    kl (f_M_isPrice N a0 a2 w6) fun x9 w10 =>
    cd (x9 = 0) (
    some ((-100002), w10)) <|
      gd ((sh w10 a0).1 = 12) <|
      kl (f_M_could N a0 a1 a2 w10) fun x13 w14 =>
      cd (x13 = 0) (
      some (0, w14)) <|
        gd ((sh w14 a0).1 = 12) <|
        bd (gI w14 a0 38) fun x18 =>
        rr (gR w14 a0 7) fun x19 =>
        gd ((sh w14 x19).1 = 50) <|
        gd (¬ (a3 < 0 ∨ (sh w14 x19).2 ≤ a3.toNatClampNeg)) <|
        bd (gI w14 x19 a3.toNatClampNeg) fun x23 =>
        cd ((99 : Int32) ≤ x23) (
          f_M_more_b78 N a0 a1 a2 a3 x18 x23 99 a3 x19 w14) <|
        bd (x23 + 1) fun x39 =>
        f_M_more_b78 N a0 a1 a2 a3 x18 x23 x39 a3 x19 w14
def f_M_more (N : Nat) (a0 : Nat) (a1 : Int32) (a2 : Int32) (a3 : Int32) (w : gW) : Option (Int32 × gW) := f_M_more_b0 N a0 a1 a2 a3 w
def f_M_heaviest_b37 (N : Nat) (rec37 : Nat × Int32 × Int32 × Int32 × Int32 × gW → Option (Int32 × gW)) (a0 : Nat) (a1 : Int32) (a2 : Int32) (a3 : Int32) (a4 : Int32) (w : gW) : Option (Int32 × gW) :=
  cd (a2 < a4) (
    gd ((sh w a0).1 = 12) <|
    kl (f_M_putBack N a0 w) fun x17 w18 =>
    some (a3, w18)) <|
  bd (7 * a4) fun x21 =>
  gd ((sh w a0).1 = 12) <|
  kl (f_M_goes N a0 a1 x21 w) fun x22 w23 =>
  gd ((sh w23 a0).1 = 12) <|
  kl (f_M_weight N a0 a1 w23) fun x26 w27 =>
  cd (x26 ≤ a3) (
    bd (a4 + 1) fun x30 =>
    rec37 (a0, a1, a2, a3, x30, w27)) <|
  bd (a4 + 1) fun x31 =>
  rec37 (a0, a1, a2, x26, x31, w27)
def f_M_heaviest_l37 (N : Nat) (a0 : Nat) (a1 : Int32) (a2 : Int32) (a3 : Int32) (a4 : Int32) (w : gW) : Option (Int32 × gW) :=
  itr (fun rec (q : Nat × Int32 × Int32 × Int32 × Int32 × gW) => f_M_heaviest_b37 N rec q.1 q.2.1 q.2.2.1 q.2.2.2.1 q.2.2.2.2.1 q.2.2.2.2.2) N (a0, a1, a2, a3, a4, w)
def f_M_heaviest_b0 (N : Nat) (a0 : Nat) (a1 : Int32) (a2 : Int32) (w : gW) : Option (Int32 × gW) :=
  gd ((sh w a0).1 = 12) <|
  kl (f_M_isPayer N a0 a1 w) fun x1 w2 =>
  cd (x1 = 0) (
  some ((-1), w2)) <|
    gd ((sh w2 a0).1 = 12) <|
    kl (f_M_in N a0 a2 1 8 w2) fun x5 w6 =>
    cd (x5 = 0) (
    some ((-2), w6)) <|
      gd ((sh w6 a0).1 = 12) <|
      kl (f_M_weight N a0 a1 w6) fun x9 w10 =>
      gd ((sh w10 a0).1 = 12) <|
      kl (f_M_save N a0 w10) fun x13 w14 =>
      f_M_heaviest_l37 N a0 a1 a2 x9 1 w14
def f_M_heaviest (N : Nat) (a0 : Nat) (a1 : Int32) (a2 : Int32) (w : gW) : Option (Int32 × gW) := f_M_heaviest_b0 N a0 a1 a2 w
def f_M_see_b0 (N : Nat) (a0 : Nat) (a1 : Int32) (a2 : Int32) (w : gW) : Option (Int32 × gW) :=
  cd (a1 = (-1)) (
  gd ((sh w a0).1 = 12) <|
  bd (sI w a0 43 0) fun w31 =>
  some (0, w31)) <|
    gd ((sh w a0).1 = 12) <|
    kl (f_M_isPrice N a0 a1 w) fun x1 w2 =>
    cd (x1 = 0) (
      some ((-2), w2)) <|
    gd ((sh w2 a0).1 = 12) <|
    kl (f_M_in N a0 a2 0 99 w2) fun x5 w6 =>
    cd (x5 = 0) (
    some ((-2), w6)) <|
      gd ((sh w6 a0).1 = 12) <|
      bd (gI w6 a0 43) fun x10 =>
      cd (x10 = 4) (
      some ((-4), w6)) <|
        rr (gR w6 a0 44) fun x11 =>
        bd (gI w6 a0 43) fun x13 =>
        gd ((sh w6 x11).1 = 50) <|
        gd (¬ (x13 < 0 ∨ (sh w6 x11).2 ≤ x13.toNatClampNeg)) <|
        bd (sI w6 x11 x13.toNatClampNeg a1) fun w16 =>
        gd ((sh w16 a0).1 = 12) <|
        rr (gR w16 a0 45) fun x18 =>
        bd (gI w16 a0 43) fun x20 =>
        gd ((sh w16 x18).1 = 50) <|
        gd (¬ (x20 < 0 ∨ (sh w16 x18).2 ≤ x20.toNatClampNeg)) <|
        bd (sI w16 x18 x20.toNatClampNeg a2) fun w23 =>
        gd ((sh w23 a0).1 = 12) <|
        bd (gI w23 a0 43) fun x25 =>
        bd (x25 + 1) fun x26 =>
        bd (sI w23 a0 43 x26) fun w27 =>
        gd ((sh w27 a0).1 = 12) <|
        bd (gI w27 a0 43) fun x29 =>
        some (x29, w27)
def f_M_see (N : Nat) (a0 : Nat) (a1 : Int32) (a2 : Int32) (w : gW) : Option (Int32 × gW) := f_M_see_b0 N a0 a1 a2 w
def f_M_fits_b71 (N : Nat) (rec4 : Nat × Int32 × Int32 × gW → Option (Int32 × gW)) (a0 : Nat) (a1 : Int32) (a2 : Int32) (a3 : Int32) (w : gW) : Option (Int32 × gW) :=
  cd (a3 = 0) (
    bd (a1 ||| 0) fun x5 =>
    bd (a2 + 1) fun x6 =>
    rec4 (a0, x5, x6, w)) <|
  bd (1 <<< (a2 &&& 31)) fun x7 =>
  bd (a1 ||| x7) fun x8 =>
  bd (a2 + 1) fun x9 =>
  rec4 (a0, x8, x9, w)
def f_M_fits_b17 (N : Nat) (rec4 : Nat × Int32 × Int32 × gW → Option (Int32 × gW)) (rec17 : Nat × Int32 × Int32 × Int32 × Int32 × gW → Option (Int32 × gW)) (a0 : Nat) (a1 : Int32) (a2 : Int32) (a3 : Int32) (a4 : Int32) (w : gW) : Option (Int32 × gW) :=
  gd ((sh w a0).1 = 12) <|
  bd (gI w a0 43) fun x4 =>
  cd (x4 ≤ a4) (
    f_M_fits_b71 N rec4 a0 a1 a2 a3 w) <|
  cd (a3 = 0) (
    f_M_fits_b71 N rec4 a0 a1 a2 a3 w) <|
  rr (gR w a0 44) fun x10 =>
  gd ((sh w x10).1 = 50) <|
  gd (¬ (a4 < 0 ∨ (sh w x10).2 ≤ a4.toNatClampNeg)) <|
  bd (gI w x10 a4.toNatClampNeg) fun x14 =>
  kl (f_M_could N a0 a2 x14 w) fun x15 w16 =>
  cd (x15 = 0) (
    bd (a4 + 1) fun x18 =>
    rec17 (a0, a1, a2, 0, x18, w16)) <|
  gd ((sh w16 a0).1 = 12) <|
  bd (gI w16 a0 39) fun x20 =>
  rr (gR w16 a0 45) fun x21 =>
  gd ((sh w16 x21).1 = 50) <|
  gd (¬ (a4 < 0 ∨ (sh w16 x21).2 ≤ a4.toNatClampNeg)) <|
  bd (gI w16 x21 a4.toNatClampNeg) fun x25 =>
  cd (x20 = x25) (
  bd (a4 + 1) fun x27 =>
  rec17 (a0, a1, a2, 1, x27, w16)) <|
    bd (a4 + 1) fun x26 =>
    rec17 (a0, a1, a2, 0, x26, w16)
def f_M_fits_l17 (N : Nat) (rec4 : Nat × Int32 × Int32 × gW → Option (Int32 × gW)) (a0 : Nat) (a1 : Int32) (a2 : Int32) (a3 : Int32) (a4 : Int32) (w : gW) : Option (Int32 × gW) :=
  itr (fun rec (q : Nat × Int32 × Int32 × Int32 × Int32 × gW) => f_M_fits_b17 N rec4 rec q.1 q.2.1 q.2.2.1 q.2.2.2.1 q.2.2.2.2.1 q.2.2.2.2.2) N (a0, a1, a2, a3, a4, w)
def f_M_fits_b4 (N : Nat) (rec4 : Nat × Int32 × Int32 × gW → Option (Int32 × gW)) (a0 : Nat) (a1 : Int32) (a2 : Int32) (w : gW) : Option (Int32 × gW) :=
  gd ((sh w a0).1 = 12) <|
  bd (gI w a0 0) fun x2 =>
  cd (x2 ≤ a2) (
    some (a1, w)) <|
  f_M_fits_l17 N rec4 a0 a1 a2 1 0 w
def f_M_fits_l4 (N : Nat) (a0 : Nat) (a1 : Int32) (a2 : Int32) (w : gW) : Option (Int32 × gW) :=
  itr (fun rec (q : Nat × Int32 × Int32 × gW) => f_M_fits_b4 N rec q.1 q.2.1 q.2.2.1 q.2.2.2) N (a0, a1, a2, w)
def f_M_fits_b0 (N : Nat) (a0 : Nat) (w : gW) : Option (Int32 × gW) :=
  f_M_fits_l4 N a0 0 0 w
def f_M_fits (N : Nat) (a0 : Nat) (w : gW) : Option (Int32 × gW) := f_M_fits_b0 N a0 w
def f_M_divisor_b5 (N : Nat) (rec5 : Int32 × Int32 × gW → Option (Int32 × gW)) (a3 : Int32) (a4 : Int32) (w : gW) : Option (Int32 × gW) :=
  cd (a4 = 0) (
    some (a3, w)) <|
  gd (¬ a4 = 0) <|
  bd (a3 - a3 / a4 * a4) fun x2 =>
  rec5 (a4, x2, w)
def f_M_divisor_l5 (N : Nat) (a3 : Int32) (a4 : Int32) (w : gW) : Option (Int32 × gW) :=
  itr (fun rec (q : Int32 × Int32 × gW) => f_M_divisor_b5 N rec q.1 q.2.1 q.2.2) N (a3, a4, w)
def f_M_divisor_b0 (N : Nat) (a1 : Int32) (a2 : Int32) (w : gW) : Option (Int32 × gW) :=
  f_M_divisor_l5 N a1 a2 w
def f_M_divisor (N : Nat) (a0 : Nat) (a1 : Int32) (a2 : Int32) (w : gW) : Option (Int32 × gW) := f_M_divisor_b0 N a1 a2 w
def f_M_lowest_b0 (N : Nat) (a0 : Nat) (a1 : Int32) (a2 : Int32) (a3 : Int32) (w : gW) : Option (Int64 × gW) :=
  gd ((sh w a0).1 = 12) <|
  kl (f_M_divisor N a0 a1 a2 w) fun x1 w2 =>
  cd (a3 = 0) (
  gd (¬ x1 = 0) <|
  bd (a1 / x1) fun x9 =>
  bd (x9.toInt64) fun x10 =>
  some (x10, w2)) <|
    gd (¬ x1 = 0) <|
    bd (a2 / x1) fun x6 =>
    bd (x6.toInt64) fun x7 =>
    some (x7, w2)
def f_M_lowest (N : Nat) (a0 : Nat) (a1 : Int32) (a2 : Int32) (a3 : Int32) (w : gW) : Option (Int64 × gW) := f_M_lowest_b0 N a0 a1 a2 a3 w
def f_M_odds_b27 (N : Nat) (rec27 : Nat × Int32 × Int32 × Int32 × Int32 × gW → Option (Int64 × gW)) (a0 : Nat) (a1 : Int32) (a2 : Int32) (a3 : Int32) (a4 : Int32) (w : gW) : Option (Int64 × gW) :=
  cd ((21 : Int32) ≤ a4) (
    gd ((sh w a0).1 = 12) <|
    kl (f_M_lowest N a0 a3 20 a2 w) fun x9 w10 =>
    some (x9, w10)) <|
  gd ((sh w a0).1 = 12) <|
  kl (f_M_chooses N a0 a1 a4 w) fun x13 w14 =>
  cd (x13 = 0) (
    bd (a3 + 0) fun x17 =>
    bd (a4 + 1) fun x18 =>
    rec27 (a0, a1, a2, x17, x18, w14)) <|
  bd (a3 + 1) fun x19 =>
  bd (a4 + 1) fun x20 =>
  rec27 (a0, a1, a2, x19, x20, w14)
def f_M_odds_l27 (N : Nat) (a0 : Nat) (a1 : Int32) (a2 : Int32) (a3 : Int32) (a4 : Int32) (w : gW) : Option (Int64 × gW) :=
  itr (fun rec (q : Nat × Int32 × Int32 × Int32 × Int32 × gW) => f_M_odds_b27 N rec q.1 q.2.1 q.2.2.1 q.2.2.2.1 q.2.2.2.2.1 q.2.2.2.2.2) N (a0, a1, a2, a3, a4, w)
def f_M_odds_b0 (N : Nat) (a0 : Nat) (a1 : Int32) (a2 : Int32) (w : gW) : Option (Int64 × gW) :=
  gd ((sh w a0).1 = 12) <|
  kl (f_M_isPayer N a0 a1 w) fun x1 w2 =>
  cd (x1 = 0) (
    some ((-9223372036854775808), w2)) <|
  gd ((sh w2 a0).1 = 12) <|
  kl (f_M_in N a0 a2 0 1 w2) fun x5 w6 =>
  cd (x5 = 0) (
  some ((-9223372036854775808), w6)) <|
    f_M_odds_l27 N a0 a1 a2 0 1 w6
def f_M_odds (N : Nat) (a0 : Nat) (a1 : Int32) (a2 : Int32) (w : gW) : Option (Int64 × gW) := f_M_odds_b0 N a0 a1 a2 w
def f_M_mean_b30 (N : Nat) (rec30 : Nat × Int32 × Int32 × Int32 × Int32 × Int32 × gW → Option (Int64 × gW)) (a0 : Nat) (a1 : Int32) (a2 : Int32) (a3 : Int32) (a4 : Int32) (a5 : Int32) (w : gW) : Option (Int64 × gW) :=
  gd ((sh w a0).1 = 12) <|
  bd (gI w a0 0) fun x10 =>
  cd (x10 ≤ a5) (
    cd (a4 = 0) (
    some ((-9223372036854775808), w)) <|
      kl (f_M_lowest N a0 a3 a4 a2 w) fun x11 w12 =>
      some (x11, w12)) <|
  kl (f_M_chooses N a0 a5 a1 w) fun x14 w15 =>
  cd (x14 = 0) (
  bd (a5 + 1) fun x24 =>
  rec30 (a0, a1, a2, a3, a4, x24, w15)) <|
    gd ((sh w15 a0).1 = 12) <|
    kl (f_M_coinsOf N a0 w15) fun x17 w18 =>
    bd (a3 + x17) fun x21 =>
    bd (a4 + 1) fun x22 =>
    bd (a5 + 1) fun x23 =>
    rec30 (a0, a1, a2, x21, x22, x23, w18)
def f_M_mean_l30 (N : Nat) (a0 : Nat) (a1 : Int32) (a2 : Int32) (a3 : Int32) (a4 : Int32) (a5 : Int32) (w : gW) : Option (Int64 × gW) :=
  itr (fun rec (q : Nat × Int32 × Int32 × Int32 × Int32 × Int32 × gW) => f_M_mean_b30 N rec q.1 q.2.1 q.2.2.1 q.2.2.2.1 q.2.2.2.2.1 q.2.2.2.2.2.1 q.2.2.2.2.2.2) N (a0, a1, a2, a3, a4, a5, w)
def f_M_mean_b0 (N : Nat) (a0 : Nat) (a1 : Int32) (a2 : Int32) (w : gW) : Option (Int64 × gW) :=
  gd ((sh w a0).1 = 12) <|
  kl (f_M_isPrice N a0 a1 w) fun x1 w2 =>
  cd (x1 = 0) (
    some ((-9223372036854775808), w2)) <|
  gd ((sh w2 a0).1 = 12) <|
  kl (f_M_in N a0 a2 0 1 w2) fun x5 w6 =>
  cd (x5 = 0) (
  some ((-9223372036854775808), w6)) <|
    f_M_mean_l30 N a0 a1 a2 0 0 0 w6
def f_M_mean (N : Nat) (a0 : Nat) (a1 : Int32) (a2 : Int32) (w : gW) : Option (Int64 × gW) := f_M_mean_b0 N a0 a1 a2 w
def f_M_book_b0 (N : Nat) (a0 : Nat) (a1 : Int32) (a2 : Int32) (w : gW) : Option (Int32 × gW) :=
  cd (a1 = (-1)) (
  gd ((sh w a0).1 = 12) <|
  bd (sI w a0 46 0) fun w31 =>
  some (0, w31)) <|
    gd ((sh w a0).1 = 12) <|
    kl (f_M_isPayer N a0 a1 w) fun x1 w2 =>
    cd (x1 = 0) (
    some ((-1), w2)) <|
      gd ((sh w2 a0).1 = 12) <|
      kl (f_M_isPrice N a0 a2 w2) fun x5 w6 =>
      cd (x5 = 0) (
      some ((-2), w6)) <|
        gd ((sh w6 a0).1 = 12) <|
        bd (gI w6 a0 46) fun x10 =>
        cd (x10 = 8) (
        some ((-4), w6)) <|
          rr (gR w6 a0 47) fun x11 =>
          bd (gI w6 a0 46) fun x13 =>
          gd ((sh w6 x11).1 = 50) <|
          gd (¬ (x13 < 0 ∨ (sh w6 x11).2 ≤ x13.toNatClampNeg)) <|
          bd (sI w6 x11 x13.toNatClampNeg a1) fun w16 =>
          gd ((sh w16 a0).1 = 12) <|
          rr (gR w16 a0 48) fun x18 =>
          bd (gI w16 a0 46) fun x20 =>
          gd ((sh w16 x18).1 = 50) <|
          gd (¬ (x20 < 0 ∨ (sh w16 x18).2 ≤ x20.toNatClampNeg)) <|
          bd (sI w16 x18 x20.toNatClampNeg a2) fun w23 =>
          gd ((sh w23 a0).1 = 12) <|
          bd (gI w23 a0 46) fun x25 =>
          bd (x25 + 1) fun x26 =>
          bd (sI w23 a0 46 x26) fun w27 =>
          gd ((sh w27 a0).1 = 12) <|
          bd (gI w27 a0 46) fun x29 =>
          some (x29, w27)
def f_M_book (N : Nat) (a0 : Nat) (a1 : Int32) (a2 : Int32) (w : gW) : Option (Int32 × gW) := f_M_book_b0 N a0 a1 a2 w
def f_M_looked_b53 (N : Nat) (a0 : Nat) (a1 : Int32) (w : gW) : Option (Int32 × gW) :=
  gd ((sh w a0).1 = 12) <|
  kl (f_M_putBack N a0 w) fun x7 w8 =>
  some (a1, w8)
def f_M_looked_b9 (N : Nat) (rec9 : Nat × Int32 × Int32 × gW → Option (Int32 × gW)) (a0 : Nat) (a1 : Int32) (a2 : Int32) (w : gW) : Option (Int32 × gW) :=
  gd ((sh w a0).1 = 12) <|
  bd (gI w a0 46) fun x6 =>
  cd (x6 ≤ a2) (
    f_M_looked_b53 N a0 a1 w) <|
  cd ((0 : Int32) ≤ a1) (
    f_M_looked_b53 N a0 a1 w) <|
  rr (gR w a0 47) fun x11 =>
  gd ((sh w x11).1 = 50) <|
  gd (¬ (a2 < 0 ∨ (sh w x11).2 ≤ a2.toNatClampNeg)) <|
  bd (gI w x11 a2.toNatClampNeg) fun x15 =>
  rr (gR w a0 48) fun x16 =>
  gd ((sh w x16).1 = 50) <|
  gd (¬ (a2 < 0 ∨ (sh w x16).2 ≤ a2.toNatClampNeg)) <|
  bd (gI w x16 a2.toNatClampNeg) fun x20 =>
  kl (f_M_goes N a0 x15 x20 w) fun x21 w22 =>
  cd (x21 = 0) (
    bd (a2 + 1) fun x24 =>
    rec9 (a0, a2, x24, w22)) <|
  bd (a2 + 1) fun x25 =>
  rec9 (a0, (-5), x25, w22)
def f_M_looked_l9 (N : Nat) (a0 : Nat) (a1 : Int32) (a2 : Int32) (w : gW) : Option (Int32 × gW) :=
  itr (fun rec (q : Nat × Int32 × Int32 × gW) => f_M_looked_b9 N rec q.1 q.2.1 q.2.2.1 q.2.2.2) N (a0, a1, a2, w)
def f_M_looked_b0 (N : Nat) (a0 : Nat) (w : gW) : Option (Int32 × gW) :=
  gd ((sh w a0).1 = 12) <|
  kl (f_M_save N a0 w) fun x1 w2 =>
  f_M_looked_l9 N a0 (-5) 0 w2
def f_M_looked (N : Nat) (a0 : Nat) (w : gW) : Option (Int32 × gW) := f_M_looked_b0 N a0 w
def f_M_isTape_b0 (N : Nat) (a0 : Nat) (a1 : Int32) (w : gW) : Option (Int32 × gW) :=
  gd ((sh w a0).1 = 12) <|
  kl (f_M_in N a0 a1 0 5 w) fun x1 w2 =>
  gd (x1 = 0 ∨ x1 = 1) <|
  some (x1, w2)
def f_M_isTape (N : Nat) (a0 : Nat) (a1 : Int32) (w : gW) : Option (Int32 × gW) := f_M_isTape_b0 N a0 a1 w
def f_M_judge_b24 (N : Nat) (rec24 : Nat × Int32 × Int32 × Int32 × gW → Option (Int32 × gW)) (a0 : Nat) (a1 : Int32) (a2 : Int32) (a3 : Int32) (w : gW) : Option (Int32 × gW) :=
  cd ((6 : Int32) ≤ a3) (
    some ((-5), w)) <|
  gd ((sh w a0).1 = 12) <|
  rr (gR w a0 68) fun x12 =>
  gd ((sh w x12).1 = 50) <|
  gd (¬ (a1 < 0 ∨ (sh w x12).2 ≤ a1.toNatClampNeg)) <|
  bd (gI w x12 a1.toNatClampNeg) fun x16 =>
  cd (x16 < 0) (
    bd (100 + a3) fun x17 =>
    some (x17, w)) <|
  cd (a2 < 0) (
    bd (100 + a3) fun x18 =>
    some (x18, w)) <|
  rr (gR w a0 69) fun x19 =>
  gd ((sh w x19).1 = 50) <|
  gd (¬ (a1 < 0 ∨ (sh w x19).2 ≤ a1.toNatClampNeg)) <|
  bd (gI w x19 a1.toNatClampNeg) fun x23 =>
  bd (x23 - a3) fun x24 =>
  bd (x24 - 1) fun x25 =>
  cd (a2 ≤ x25) (
    rr (gR w a0 70) fun x26 =>
    bd (60 * a1) fun x28 =>
    bd (x28 + a2) fun x29 =>
    bd (x29 + a3) fun x30 =>
    gd ((sh w x26).1 = 52) <|
    gd (¬ (x30 < 0 ∨ (sh w x26).2 ≤ x30.toNatClampNeg)) <|
    bd (gL w x26 x30.toNatClampNeg) fun x33 =>
    rr (gR w a0 7) fun x34 =>
    gd ((sh w x34).1 = 50) <|
    gd (¬ (a3 < 0 ∨ (sh w x34).2 ≤ a3.toNatClampNeg)) <|
    bd (gI w x34 a3.toNatClampNeg) fun x38 =>
    bd (x38.toInt64) fun x39 =>
    bd (lg_cmp x33 x39) fun x40 =>
    cd (x40 = 0) (
      bd (a3 + 1) fun x41 =>
      rec24 (a0, a1, a2, x41, w)) <|
    some (a3, w)) <|
  bd (100 + a3) fun x42 =>
  some (x42, w)
def f_M_judge_l24 (N : Nat) (a0 : Nat) (a1 : Int32) (a2 : Int32) (a3 : Int32) (w : gW) : Option (Int32 × gW) :=
  itr (fun rec (q : Nat × Int32 × Int32 × Int32 × gW) => f_M_judge_b24 N rec q.1 q.2.1 q.2.2.1 q.2.2.2.1 q.2.2.2.2) N (a0, a1, a2, a3, w)
def f_M_judge_b0 (N : Nat) (a0 : Nat) (a1 : Int32) (a2 : Int32) (w : gW) : Option (Int32 × gW) :=
  gd ((sh w a0).1 = 12) <|
  kl (f_M_isTape N a0 a1 w) fun x1 w2 =>
  cd (x1 = 0) (
  some ((-1), w2)) <|
    gd ((sh w2 a0).1 = 12) <|
    rr (gR w2 a0 68) fun x6 =>
    gd ((sh w2 x6).1 = 50) <|
    gd (¬ (a1 < 0 ∨ (sh w2 x6).2 ≤ a1.toNatClampNeg)) <|
    bd (gI w2 x6 a1.toNatClampNeg) fun x10 =>
    cd (x10 ≤ 0) (
      f_M_judge_l24 N a0 a1 a2 0 w2) <|
    some ((-12), w2)
def f_M_judge (N : Nat) (a0 : Nat) (a1 : Int32) (a2 : Int32) (w : gW) : Option (Int32 × gW) := f_M_judge_b0 N a0 a1 a2 w
def f_M_image_b210 (N : Nat) (rec210 : Nat × Int32 × gW → Option (Int32 × gW)) (a0 : Nat) (a1 : Int32) (w : gW) : Option (Int32 × gW) :=
  cd ((8 : Int32) ≤ a1) (
    gd ((sh w a0).1 = 12) <|
    bd (gI w a0 0) fun x19 =>
    some (x19, w)) <|
  gd ((sh w a0).1 = 12) <|
  rr (gR w a0 64) fun x21 =>
  rr (gR w a0 47) fun x23 =>
  gd ((sh w x23).1 = 50) <|
  gd (¬ (a1 < 0 ∨ (sh w x23).2 ≤ a1.toNatClampNeg)) <|
  bd (gI w x23 a1.toNatClampNeg) fun x27 =>
  gd ((sh w x21).1 = 50) <|
  gd (¬ (a1 < 0 ∨ (sh w x21).2 ≤ a1.toNatClampNeg)) <|
  bd (sI w x21 a1.toNatClampNeg x27) fun w30 =>
  gd ((sh w30 a0).1 = 12) <|
  rr (gR w30 a0 65) fun x32 =>
  rr (gR w30 a0 48) fun x34 =>
  gd ((sh w30 x34).1 = 50) <|
  gd (¬ (a1 < 0 ∨ (sh w30 x34).2 ≤ a1.toNatClampNeg)) <|
  bd (gI w30 x34 a1.toNatClampNeg) fun x38 =>
  gd ((sh w30 x32).1 = 50) <|
  gd (¬ (a1 < 0 ∨ (sh w30 x32).2 ≤ a1.toNatClampNeg)) <|
  bd (sI w30 x32 a1.toNatClampNeg x38) fun w41 =>
  bd (a1 + 1) fun x42 =>
  rec210 (a0, x42, w41)
def f_M_image_l210 (N : Nat) (a0 : Nat) (a1 : Int32) (w : gW) : Option (Int32 × gW) :=
  itr (fun rec (q : Nat × Int32 × gW) => f_M_image_b210 N rec q.1 q.2.1 q.2.2) N (a0, a1, w)
def f_M_image_b184 (N : Nat) (rec184 : Nat × Int32 × gW → Option (Int32 × gW)) (a0 : Nat) (a1 : Int32) (w : gW) : Option (Int32 × gW) :=
  cd ((6 : Int32) ≤ a1) (
    f_M_image_l210 N a0 0 w) <|
  gd ((sh w a0).1 = 12) <|
  rr (gR w a0 60) fun x44 =>
  rr (gR w a0 7) fun x46 =>
  gd ((sh w x46).1 = 50) <|
  gd (¬ (a1 < 0 ∨ (sh w x46).2 ≤ a1.toNatClampNeg)) <|
  bd (gI w x46 a1.toNatClampNeg) fun x50 =>
  gd ((sh w x44).1 = 50) <|
  gd (¬ (a1 < 0 ∨ (sh w x44).2 ≤ a1.toNatClampNeg)) <|
  bd (sI w x44 a1.toNatClampNeg x50) fun w53 =>
  bd (a1 + 1) fun x54 =>
  rec184 (a0, x54, w53)
def f_M_image_l184 (N : Nat) (a0 : Nat) (a1 : Int32) (w : gW) : Option (Int32 × gW) :=
  itr (fun rec (q : Nat × Int32 × gW) => f_M_image_b184 N rec q.1 q.2.1 q.2.2) N (a0, a1, w)
def f_M_image_b158 (N : Nat) (rec158 : Nat × Int32 × gW → Option (Int32 × gW)) (a0 : Nat) (a1 : Int32) (w : gW) : Option (Int32 × gW) :=
  cd ((24 : Int32) ≤ a1) (
    f_M_image_l184 N a0 0 w) <|
  gd ((sh w a0).1 = 12) <|
  rr (gR w a0 59) fun x56 =>
  rr (gR w a0 6) fun x58 =>
  gd ((sh w x58).1 = 50) <|
  gd (¬ (a1 < 0 ∨ (sh w x58).2 ≤ a1.toNatClampNeg)) <|
  bd (gI w x58 a1.toNatClampNeg) fun x62 =>
  gd ((sh w x56).1 = 50) <|
  gd (¬ (a1 < 0 ∨ (sh w x56).2 ≤ a1.toNatClampNeg)) <|
  bd (sI w x56 a1.toNatClampNeg x62) fun w65 =>
  bd (a1 + 1) fun x66 =>
  rec158 (a0, x66, w65)
def f_M_image_l158 (N : Nat) (a0 : Nat) (a1 : Int32) (w : gW) : Option (Int32 × gW) :=
  itr (fun rec (q : Nat × Int32 × gW) => f_M_image_b158 N rec q.1 q.2.1 q.2.2) N (a0, a1, w)
def f_M_image_b132 (N : Nat) (rec132 : Nat × Int32 × gW → Option (Int32 × gW)) (a0 : Nat) (a1 : Int32) (w : gW) : Option (Int32 × gW) :=
  cd ((16 : Int32) ≤ a1) (
    f_M_image_l158 N a0 0 w) <|
  gd ((sh w a0).1 = 12) <|
  rr (gR w a0 58) fun x68 =>
  rr (gR w a0 5) fun x70 =>
  gd ((sh w x70).1 = 50) <|
  gd (¬ (a1 < 0 ∨ (sh w x70).2 ≤ a1.toNatClampNeg)) <|
  bd (gI w x70 a1.toNatClampNeg) fun x74 =>
  gd ((sh w x68).1 = 50) <|
  gd (¬ (a1 < 0 ∨ (sh w x68).2 ≤ a1.toNatClampNeg)) <|
  bd (sI w x68 a1.toNatClampNeg x74) fun w77 =>
  bd (a1 + 1) fun x78 =>
  rec132 (a0, x78, w77)
def f_M_image_l132 (N : Nat) (a0 : Nat) (a1 : Int32) (w : gW) : Option (Int32 × gW) :=
  itr (fun rec (q : Nat × Int32 × gW) => f_M_image_b132 N rec q.1 q.2.1 q.2.2) N (a0, a1, w)
def f_M_image_b47 (N : Nat) (rec47 : Nat × Int32 × gW → Option (Int32 × gW)) (a0 : Nat) (a1 : Int32) (w : gW) : Option (Int32 × gW) :=
  cd ((4 : Int32) ≤ a1) (
    f_M_image_l132 N a0 0 w) <|
  gd ((sh w a0).1 = 12) <|
  rr (gR w a0 55) fun x80 =>
  rr (gR w a0 2) fun x82 =>
  gd ((sh w x82).1 = 50) <|
  gd (¬ (a1 < 0 ∨ (sh w x82).2 ≤ a1.toNatClampNeg)) <|
  bd (gI w x82 a1.toNatClampNeg) fun x86 =>
  gd ((sh w x80).1 = 50) <|
  gd (¬ (a1 < 0 ∨ (sh w x80).2 ≤ a1.toNatClampNeg)) <|
  bd (sI w x80 a1.toNatClampNeg x86) fun w89 =>
  gd ((sh w89 a0).1 = 12) <|
  rr (gR w89 a0 56) fun x91 =>
  rr (gR w89 a0 3) fun x93 =>
  gd ((sh w89 x93).1 = 50) <|
  gd (¬ (a1 < 0 ∨ (sh w89 x93).2 ≤ a1.toNatClampNeg)) <|
  bd (gI w89 x93 a1.toNatClampNeg) fun x97 =>
  gd ((sh w89 x91).1 = 50) <|
  gd (¬ (a1 < 0 ∨ (sh w89 x91).2 ≤ a1.toNatClampNeg)) <|
  bd (sI w89 x91 a1.toNatClampNeg x97) fun w100 =>
  gd ((sh w100 a0).1 = 12) <|
  rr (gR w100 a0 57) fun x102 =>
  rr (gR w100 a0 4) fun x104 =>
  gd ((sh w100 x104).1 = 50) <|
  gd (¬ (a1 < 0 ∨ (sh w100 x104).2 ≤ a1.toNatClampNeg)) <|
  bd (gI w100 x104 a1.toNatClampNeg) fun x108 =>
  gd ((sh w100 x102).1 = 50) <|
  gd (¬ (a1 < 0 ∨ (sh w100 x102).2 ≤ a1.toNatClampNeg)) <|
  bd (sI w100 x102 a1.toNatClampNeg x108) fun w111 =>
  gd ((sh w111 a0).1 = 12) <|
  rr (gR w111 a0 61) fun x113 =>
  rr (gR w111 a0 42) fun x115 =>
  gd ((sh w111 x115).1 = 50) <|
  gd (¬ (a1 < 0 ∨ (sh w111 x115).2 ≤ a1.toNatClampNeg)) <|
  bd (gI w111 x115 a1.toNatClampNeg) fun x119 =>
  gd ((sh w111 x113).1 = 50) <|
  gd (¬ (a1 < 0 ∨ (sh w111 x113).2 ≤ a1.toNatClampNeg)) <|
  bd (sI w111 x113 a1.toNatClampNeg x119) fun w122 =>
  gd ((sh w122 a0).1 = 12) <|
  rr (gR w122 a0 62) fun x124 =>
  rr (gR w122 a0 44) fun x126 =>
  gd ((sh w122 x126).1 = 50) <|
  gd (¬ (a1 < 0 ∨ (sh w122 x126).2 ≤ a1.toNatClampNeg)) <|
  bd (gI w122 x126 a1.toNatClampNeg) fun x130 =>
  gd ((sh w122 x124).1 = 50) <|
  gd (¬ (a1 < 0 ∨ (sh w122 x124).2 ≤ a1.toNatClampNeg)) <|
  bd (sI w122 x124 a1.toNatClampNeg x130) fun w133 =>
  gd ((sh w133 a0).1 = 12) <|
  rr (gR w133 a0 63) fun x135 =>
  rr (gR w133 a0 45) fun x137 =>
  gd ((sh w133 x137).1 = 50) <|
  gd (¬ (a1 < 0 ∨ (sh w133 x137).2 ≤ a1.toNatClampNeg)) <|
  bd (gI w133 x137 a1.toNatClampNeg) fun x141 =>
  gd ((sh w133 x135).1 = 50) <|
  gd (¬ (a1 < 0 ∨ (sh w133 x135).2 ≤ a1.toNatClampNeg)) <|
  bd (sI w133 x135 a1.toNatClampNeg x141) fun w144 =>
  bd (a1 + 1) fun x145 =>
  rec47 (a0, x145, w144)
def f_M_image_l47 (N : Nat) (a0 : Nat) (a1 : Int32) (w : gW) : Option (Int32 × gW) :=
  itr (fun rec (q : Nat × Int32 × gW) => f_M_image_b47 N rec q.1 q.2.1 q.2.2) N (a0, a1, w)
def f_M_image_b0 (N : Nat) (a0 : Nat) (w : gW) : Option (Int32 × gW) :=
  gd ((sh w a0).1 = 12) <|
  bd (sI w a0 49 1) fun w2 =>
  gd ((sh w2 a0).1 = 12) <|
  bd (gI w2 a0 9) fun x4 =>
  bd (sI w2 a0 50 x4) fun w5 =>
  gd ((sh w5 a0).1 = 12) <|
  bd (gI w5 a0 0) fun x7 =>
  bd (sI w5 a0 51 x7) fun w8 =>
  gd ((sh w8 a0).1 = 12) <|
  bd (gI w8 a0 41) fun x10 =>
  bd (sI w8 a0 52 x10) fun w11 =>
  gd ((sh w11 a0).1 = 12) <|
  bd (gI w11 a0 43) fun x13 =>
  bd (sI w11 a0 53 x13) fun w14 =>
  gd ((sh w14 a0).1 = 12) <|
  bd (gI w14 a0 46) fun x16 =>
  bd (sI w14 a0 54 x16) fun w17 =>
  f_M_image_l47 N a0 0 w17
def f_M_image (N : Nat) (a0 : Nat) (w : gW) : Option (Int32 × gW) := f_M_image_b0 N a0 w
def f_M_undo_b215 (N : Nat) (rec215 : Nat × Int32 × gW → Option (Int32 × gW)) (a0 : Nat) (a1 : Int32) (w : gW) : Option (Int32 × gW) :=
  cd ((8 : Int32) ≤ a1) (
    gd ((sh w a0).1 = 12) <|
    bd (gI w a0 0) fun x18 =>
    some (x18, w)) <|
  gd ((sh w a0).1 = 12) <|
  rr (gR w a0 47) fun x20 =>
  rr (gR w a0 64) fun x22 =>
  gd ((sh w x22).1 = 50) <|
  gd (¬ (a1 < 0 ∨ (sh w x22).2 ≤ a1.toNatClampNeg)) <|
  bd (gI w x22 a1.toNatClampNeg) fun x26 =>
  gd ((sh w x20).1 = 50) <|
  gd (¬ (a1 < 0 ∨ (sh w x20).2 ≤ a1.toNatClampNeg)) <|
  bd (sI w x20 a1.toNatClampNeg x26) fun w29 =>
  gd ((sh w29 a0).1 = 12) <|
  rr (gR w29 a0 48) fun x31 =>
  rr (gR w29 a0 65) fun x33 =>
  gd ((sh w29 x33).1 = 50) <|
  gd (¬ (a1 < 0 ∨ (sh w29 x33).2 ≤ a1.toNatClampNeg)) <|
  bd (gI w29 x33 a1.toNatClampNeg) fun x37 =>
  gd ((sh w29 x31).1 = 50) <|
  gd (¬ (a1 < 0 ∨ (sh w29 x31).2 ≤ a1.toNatClampNeg)) <|
  bd (sI w29 x31 a1.toNatClampNeg x37) fun w40 =>
  bd (a1 + 1) fun x41 =>
  rec215 (a0, x41, w40)
def f_M_undo_l215 (N : Nat) (a0 : Nat) (a1 : Int32) (w : gW) : Option (Int32 × gW) :=
  itr (fun rec (q : Nat × Int32 × gW) => f_M_undo_b215 N rec q.1 q.2.1 q.2.2) N (a0, a1, w)
def f_M_undo_b189 (N : Nat) (rec189 : Nat × Int32 × gW → Option (Int32 × gW)) (a0 : Nat) (a1 : Int32) (w : gW) : Option (Int32 × gW) :=
  cd ((6 : Int32) ≤ a1) (
    f_M_undo_l215 N a0 0 w) <|
  gd ((sh w a0).1 = 12) <|
  rr (gR w a0 7) fun x43 =>
  rr (gR w a0 60) fun x45 =>
  gd ((sh w x45).1 = 50) <|
  gd (¬ (a1 < 0 ∨ (sh w x45).2 ≤ a1.toNatClampNeg)) <|
  bd (gI w x45 a1.toNatClampNeg) fun x49 =>
  gd ((sh w x43).1 = 50) <|
  gd (¬ (a1 < 0 ∨ (sh w x43).2 ≤ a1.toNatClampNeg)) <|
  bd (sI w x43 a1.toNatClampNeg x49) fun w52 =>
  bd (a1 + 1) fun x53 =>
  rec189 (a0, x53, w52)
def f_M_undo_l189 (N : Nat) (a0 : Nat) (a1 : Int32) (w : gW) : Option (Int32 × gW) :=
  itr (fun rec (q : Nat × Int32 × gW) => f_M_undo_b189 N rec q.1 q.2.1 q.2.2) N (a0, a1, w)
def f_M_undo_b163 (N : Nat) (rec163 : Nat × Int32 × gW → Option (Int32 × gW)) (a0 : Nat) (a1 : Int32) (w : gW) : Option (Int32 × gW) :=
  cd ((24 : Int32) ≤ a1) (
    f_M_undo_l189 N a0 0 w) <|
  gd ((sh w a0).1 = 12) <|
  rr (gR w a0 6) fun x55 =>
  rr (gR w a0 59) fun x57 =>
  gd ((sh w x57).1 = 50) <|
  gd (¬ (a1 < 0 ∨ (sh w x57).2 ≤ a1.toNatClampNeg)) <|
  bd (gI w x57 a1.toNatClampNeg) fun x61 =>
  gd ((sh w x55).1 = 50) <|
  gd (¬ (a1 < 0 ∨ (sh w x55).2 ≤ a1.toNatClampNeg)) <|
  bd (sI w x55 a1.toNatClampNeg x61) fun w64 =>
  bd (a1 + 1) fun x65 =>
  rec163 (a0, x65, w64)
def f_M_undo_l163 (N : Nat) (a0 : Nat) (a1 : Int32) (w : gW) : Option (Int32 × gW) :=
  itr (fun rec (q : Nat × Int32 × gW) => f_M_undo_b163 N rec q.1 q.2.1 q.2.2) N (a0, a1, w)
def f_M_undo_b137 (N : Nat) (rec137 : Nat × Int32 × gW → Option (Int32 × gW)) (a0 : Nat) (a1 : Int32) (w : gW) : Option (Int32 × gW) :=
  cd ((16 : Int32) ≤ a1) (
    f_M_undo_l163 N a0 0 w) <|
  gd ((sh w a0).1 = 12) <|
  rr (gR w a0 5) fun x67 =>
  rr (gR w a0 58) fun x69 =>
  gd ((sh w x69).1 = 50) <|
  gd (¬ (a1 < 0 ∨ (sh w x69).2 ≤ a1.toNatClampNeg)) <|
  bd (gI w x69 a1.toNatClampNeg) fun x73 =>
  gd ((sh w x67).1 = 50) <|
  gd (¬ (a1 < 0 ∨ (sh w x67).2 ≤ a1.toNatClampNeg)) <|
  bd (sI w x67 a1.toNatClampNeg x73) fun w76 =>
  bd (a1 + 1) fun x77 =>
  rec137 (a0, x77, w76)
def f_M_undo_l137 (N : Nat) (a0 : Nat) (a1 : Int32) (w : gW) : Option (Int32 × gW) :=
  itr (fun rec (q : Nat × Int32 × gW) => f_M_undo_b137 N rec q.1 q.2.1 q.2.2) N (a0, a1, w)
def f_M_undo_b52 (N : Nat) (rec52 : Nat × Int32 × gW → Option (Int32 × gW)) (a0 : Nat) (a1 : Int32) (w : gW) : Option (Int32 × gW) :=
  cd ((4 : Int32) ≤ a1) (
    f_M_undo_l137 N a0 0 w) <|
  gd ((sh w a0).1 = 12) <|
  rr (gR w a0 2) fun x79 =>
  rr (gR w a0 55) fun x81 =>
  gd ((sh w x81).1 = 50) <|
  gd (¬ (a1 < 0 ∨ (sh w x81).2 ≤ a1.toNatClampNeg)) <|
  bd (gI w x81 a1.toNatClampNeg) fun x85 =>
  gd ((sh w x79).1 = 50) <|
  gd (¬ (a1 < 0 ∨ (sh w x79).2 ≤ a1.toNatClampNeg)) <|
  bd (sI w x79 a1.toNatClampNeg x85) fun w88 =>
  gd ((sh w88 a0).1 = 12) <|
  rr (gR w88 a0 3) fun x90 =>
  rr (gR w88 a0 56) fun x92 =>
  gd ((sh w88 x92).1 = 50) <|
  gd (¬ (a1 < 0 ∨ (sh w88 x92).2 ≤ a1.toNatClampNeg)) <|
  bd (gI w88 x92 a1.toNatClampNeg) fun x96 =>
  gd ((sh w88 x90).1 = 50) <|
  gd (¬ (a1 < 0 ∨ (sh w88 x90).2 ≤ a1.toNatClampNeg)) <|
  bd (sI w88 x90 a1.toNatClampNeg x96) fun w99 =>
  gd ((sh w99 a0).1 = 12) <|
  rr (gR w99 a0 4) fun x101 =>
  rr (gR w99 a0 57) fun x103 =>
  gd ((sh w99 x103).1 = 50) <|
  gd (¬ (a1 < 0 ∨ (sh w99 x103).2 ≤ a1.toNatClampNeg)) <|
  bd (gI w99 x103 a1.toNatClampNeg) fun x107 =>
  gd ((sh w99 x101).1 = 50) <|
  gd (¬ (a1 < 0 ∨ (sh w99 x101).2 ≤ a1.toNatClampNeg)) <|
  bd (sI w99 x101 a1.toNatClampNeg x107) fun w110 =>
  gd ((sh w110 a0).1 = 12) <|
  rr (gR w110 a0 42) fun x112 =>
  rr (gR w110 a0 61) fun x114 =>
  gd ((sh w110 x114).1 = 50) <|
  gd (¬ (a1 < 0 ∨ (sh w110 x114).2 ≤ a1.toNatClampNeg)) <|
  bd (gI w110 x114 a1.toNatClampNeg) fun x118 =>
  gd ((sh w110 x112).1 = 50) <|
  gd (¬ (a1 < 0 ∨ (sh w110 x112).2 ≤ a1.toNatClampNeg)) <|
  bd (sI w110 x112 a1.toNatClampNeg x118) fun w121 =>
  gd ((sh w121 a0).1 = 12) <|
  rr (gR w121 a0 44) fun x123 =>
  rr (gR w121 a0 62) fun x125 =>
  gd ((sh w121 x125).1 = 50) <|
  gd (¬ (a1 < 0 ∨ (sh w121 x125).2 ≤ a1.toNatClampNeg)) <|
  bd (gI w121 x125 a1.toNatClampNeg) fun x129 =>
  gd ((sh w121 x123).1 = 50) <|
  gd (¬ (a1 < 0 ∨ (sh w121 x123).2 ≤ a1.toNatClampNeg)) <|
  bd (sI w121 x123 a1.toNatClampNeg x129) fun w132 =>
  gd ((sh w132 a0).1 = 12) <|
  rr (gR w132 a0 45) fun x134 =>
  rr (gR w132 a0 63) fun x136 =>
  gd ((sh w132 x136).1 = 50) <|
  gd (¬ (a1 < 0 ∨ (sh w132 x136).2 ≤ a1.toNatClampNeg)) <|
  bd (gI w132 x136 a1.toNatClampNeg) fun x140 =>
  gd ((sh w132 x134).1 = 50) <|
  gd (¬ (a1 < 0 ∨ (sh w132 x134).2 ≤ a1.toNatClampNeg)) <|
  bd (sI w132 x134 a1.toNatClampNeg x140) fun w143 =>
  bd (a1 + 1) fun x144 =>
  rec52 (a0, x144, w143)
def f_M_undo_l52 (N : Nat) (a0 : Nat) (a1 : Int32) (w : gW) : Option (Int32 × gW) :=
  itr (fun rec (q : Nat × Int32 × gW) => f_M_undo_b52 N rec q.1 q.2.1 q.2.2) N (a0, a1, w)
def f_M_undo_b0 (N : Nat) (a0 : Nat) (w : gW) : Option (Int32 × gW) :=
  gd ((sh w a0).1 = 12) <|
  bd (gI w a0 49) fun x2 =>
  cd (x2 = 0) (
  some ((-3), w)) <|
    bd (gI w a0 50) fun x3 =>
    bd (sI w a0 9 x3) fun w4 =>
    gd ((sh w4 a0).1 = 12) <|
    bd (gI w4 a0 51) fun x6 =>
    bd (sI w4 a0 0 x6) fun w7 =>
    gd ((sh w7 a0).1 = 12) <|
    bd (gI w7 a0 52) fun x9 =>
    bd (sI w7 a0 41 x9) fun w10 =>
    gd ((sh w10 a0).1 = 12) <|
    bd (gI w10 a0 53) fun x12 =>
    bd (sI w10 a0 43 x12) fun w13 =>
    gd ((sh w13 a0).1 = 12) <|
    bd (gI w13 a0 54) fun x15 =>
    bd (sI w13 a0 46 x15) fun w16 =>
    f_M_undo_l52 N a0 0 w16
def f_M_undo (N : Nat) (a0 : Nat) (w : gW) : Option (Int32 × gW) := f_M_undo_b0 N a0 w
def f_M_body_b19 (N : Nat) (a0 : Nat) (w : gW) : Option (Unit × gW) :=
  gd ((sh w a0).1 = 12) <|
  bd (gI w a0 66) fun x4 =>
  bd (x4 + 1) fun x5 =>
  bd (sI w a0 66 x5) fun w6 =>
  some ((), w6)
def f_M_body_b0 (N : Nat) (a0 : Nat) (a1 : Int32) (w : gW) : Option (Unit × gW) :=
  gd ((sh w a0).1 = 12) <|
  bd (gI w a0 66) fun x2 =>
  cd ((20 : Int32) ≤ x2) (
    f_M_body_b19 N a0 w) <|
  rr (gR w a0 67) fun x7 =>
  bd (gI w a0 66) fun x9 =>
  gd ((sh w x7).1 = 50) <|
  gd (¬ (x9 < 0 ∨ (sh w x7).2 ≤ x9.toNatClampNeg)) <|
  bd (sI w x7 x9.toNatClampNeg a1) fun w12 =>
  f_M_body_b19 N a0 w12
def f_M_body (N : Nat) (a0 : Nat) (a1 : Int32) (w : gW) : Option (Unit × gW) := f_M_body_b0 N a0 a1 w
def f_M_payerCounts_b0 (N : Nat) (a0 : Nat) (a1 : Int32) (a2 : Int32) (w : gW) : Option (Int32 × gW) :=
  gd ((sh w a0).1 = 12) <|
  kl (f_M_body N a0 10 w) fun x1 w2 =>
  bd (a2 + a1) fun x5 =>
  some (x5, w2)
def f_M_payerCounts (N : Nat) (a0 : Nat) (a1 : Int32) (a2 : Int32) (w : gW) : Option (Int32 × gW) := f_M_payerCounts_b0 N a0 a1 a2 w
def f_M_countsAct_b40 (N : Nat) (a0 : Nat) (a1 : Int32) (a2 : Int32) (w : gW) : Option (Int32 × gW) :=
  gd ((sh w a0).1 = 12) <|
  kl (f_M_body N a0 30 w) fun x8 w9 =>
  bd (a2 * 3) fun x12 =>
  gd ((sh w9 a0).1 = 12) <|
  kl (f_M_payerCounts N a0 a1 x12 w9) fun x13 w14 =>
  some (x13, w14)
def f_M_countsAct_b89 (N : Nat) (a0 : Nat) (a1 : Int32) (a2 : Int32) (w : gW) : Option (Int32 × gW) :=
  gd ((sh w a0).1 = 12) <|
  kl (f_M_payerCounts N a0 a1 a2 w) fun x42 w43 =>
  some (x42, w43)
def f_M_countsAct_b0 (N : Nat) (a0 : Nat) (a1 : Int32) (a2 : Int32) (w : gW) : Option (Int32 × gW) :=
  gd ((sh w a0).1 = 12) <|
  rr (gR w a0 2) fun x2 =>
  gd ((sh w x2).1 = 50) <|
  gd (¬ (a1 < 0 ∨ (sh w x2).2 ≤ a1.toNatClampNeg)) <|
  bd (gI w x2 a1.toNatClampNeg) fun x6 =>
  cd (x6 = 2) (
    f_M_countsAct_b40 N a0 a1 a2 w) <|
  cd (x6 = 4) (
    kl (f_M_body N a0 50 w) fun x18 w19 =>
    gd ((sh w19 a0).1 = 12) <|
    kl (f_M_payerCounts N a0 a1 a2 w19) fun x21 w22 =>
    bd (-x21) fun x25 =>
    some (x25, w22)) <|
  cd (x6 = 5) (
    f_M_countsAct_b40 N a0 a1 a2 w) <|
  cd (x6 = 6) (
    kl (f_M_body N a0 71 w) fun x28 w29 =>
    gd ((sh w29 a0).1 = 12) <|
    kl (f_M_payerCounts N a0 a1 a2 w29) fun x31 w32 =>
    gd ((sh w32 a0).1 = 12) <|
    rr (gR w32 a0 3) fun x36 =>
    gd ((sh w32 x36).1 = 50) <|
    gd (¬ (a1 < 0 ∨ (sh w32 x36).2 ≤ a1.toNatClampNeg)) <|
    bd (gI w32 x36 a1.toNatClampNeg) fun x40 =>
    bd (x31 ^^^ x40) fun x41 =>
    some (x41, w32)) <|
  f_M_countsAct_b89 N a0 a1 a2 w
def f_M_countsAct (N : Nat) (a0 : Nat) (a1 : Int32) (a2 : Int32) (w : gW) : Option (Int32 × gW) := f_M_countsAct_b0 N a0 a1 a2 w
def f_M_payerHands_b0 (N : Nat) (a0 : Nat) (a1 : Int32) (a2 : Int32) (w : gW) : Option (Int32 × gW) :=
  gd ((sh w a0).1 = 12) <|
  kl (f_M_body N a0 11 w) fun x1 w2 =>
  gd ((sh w2 a0).1 = 12) <|
  kl (f_M_countsAct N a0 a1 a2 w2) fun x5 w6 =>
  gd ((sh w6 a0).1 = 12) <|
  rr (gR w6 a0 3) fun x10 =>
  gd ((sh w6 x10).1 = 50) <|
  gd (¬ (a1 < 0 ∨ (sh w6 x10).2 ≤ a1.toNatClampNeg)) <|
  bd (gI w6 x10 a1.toNatClampNeg) fun x14 =>
  bd (x5 - x14) fun x15 =>
  some (x15, w6)
def f_M_payerHands (N : Nat) (a0 : Nat) (a1 : Int32) (a2 : Int32) (w : gW) : Option (Int32 × gW) := f_M_payerHands_b0 N a0 a1 a2 w
def f_M_exactHands_b0 (N : Nat) (a0 : Nat) (a1 : Int32) (a2 : Int32) (w : gW) : Option (Int32 × gW) :=
  gd ((sh w a0).1 = 12) <|
  kl (f_M_body N a0 20 w) fun x1 w2 =>
  gd ((sh w2 a0).1 = 12) <|
  kl (f_M_payerHands N a0 a1 a2 w2) fun x5 w6 =>
  bd (x5 ^^^ 6) fun x9 =>
  some (x9, w6)
def f_M_exactHands (N : Nat) (a0 : Nat) (a1 : Int32) (a2 : Int32) (w : gW) : Option (Int32 × gW) := f_M_exactHands_b0 N a0 a1 a2 w
def f_M_handsAct_b0 (N : Nat) (a0 : Nat) (a1 : Int32) (a2 : Int32) (w : gW) : Option (Int32 × gW) :=
  gd ((sh w a0).1 = 12) <|
  rr (gR w a0 2) fun x2 =>
  gd ((sh w x2).1 = 50) <|
  gd (¬ (a1 < 0 ∨ (sh w x2).2 ≤ a1.toNatClampNeg)) <|
  bd (gI w x2 a1.toNatClampNeg) fun x6 =>
  cd (x6 = 1) (
    kl (f_M_exactHands N a0 a1 a2 w) fun x8 w9 =>
    some (x8, w9)) <|
  cd (x6 = 4) (
    kl (f_M_body N a0 51 w) fun x12 w13 =>
    bd (a2 + 1) fun x15 =>
    gd ((sh w13 a0).1 = 12) <|
    kl (f_M_exactHands N a0 a1 x15 w13) fun x16 w17 =>
    some (x16, w17)) <|
  cd (x6 = 6) (
    kl (f_M_body N a0 70 w) fun x21 w22 =>
    gd ((sh w22 a0).1 = 12) <|
    kl (f_M_payerHands N a0 a1 a2 w22) fun x24 w25 =>
    gd ((sh w25 a0).1 = 12) <|
    kl (f_M_payerCounts N a0 a1 2 w25) fun x28 w29 =>
    bd (x24 + x28) fun x32 =>
    some (x32, w29)) <|
  kl (f_M_payerHands N a0 a1 a2 w) fun x33 w34 =>
  some (x33, w34)
def f_M_handsAct (N : Nat) (a0 : Nat) (a1 : Int32) (a2 : Int32) (w : gW) : Option (Int32 × gW) := f_M_handsAct_b0 N a0 a1 a2 w
def f_M_payerTells_b0 (N : Nat) (a0 : Nat) (a1 : Int32) (a2 : Int32) (w : gW) : Option (Int32 × gW) :=
  gd ((sh w a0).1 = 12) <|
  kl (f_M_body N a0 12 w) fun x1 w2 =>
  gd ((sh w2 a0).1 = 12) <|
  kl (f_M_handsAct N a0 a1 a2 w2) fun x5 w6 =>
  bd (x5 * 2) fun x9 =>
  some (x9, w6)
def f_M_payerTells (N : Nat) (a0 : Nat) (a1 : Int32) (a2 : Int32) (w : gW) : Option (Int32 × gW) := f_M_payerTells_b0 N a0 a1 a2 w
def f_M_tellsAct_b36 (N : Nat) (a0 : Nat) (a1 : Int32) (a2 : Int32) (w : gW) : Option (Int32 × gW) :=
  gd ((sh w a0).1 = 12) <|
  kl (f_M_body N a0 40 w) fun x8 w9 =>
  gd ((sh w9 a0).1 = 12) <|
  kl (f_M_payerTells N a0 a1 a2 w9) fun x12 w13 =>
  gd ((sh w13 a0).1 = 12) <|
  kl (f_M_handsAct N a0 a1 1 w13) fun x16 w17 =>
  bd (x12 + x16) fun x20 =>
  some (x20, w17)
def f_M_tellsAct_b73 (N : Nat) (a0 : Nat) (a1 : Int32) (a2 : Int32) (w : gW) : Option (Int32 × gW) :=
  gd ((sh w a0).1 = 12) <|
  kl (f_M_payerTells N a0 a1 a2 w) fun x31 w32 =>
  some (x31, w32)
def f_M_tellsAct_b0 (N : Nat) (a0 : Nat) (a1 : Int32) (a2 : Int32) (w : gW) : Option (Int32 × gW) :=
  gd ((sh w a0).1 = 12) <|
  rr (gR w a0 2) fun x2 =>
  gd ((sh w x2).1 = 50) <|
  gd (¬ (a1 < 0 ∨ (sh w x2).2 ≤ a1.toNatClampNeg)) <|
  bd (gI w x2 a1.toNatClampNeg) fun x6 =>
  cd (x6 = 3) (
    f_M_tellsAct_b36 N a0 a1 a2 w) <|
  cd (x6 = 5) (
    kl (f_M_body N a0 60 w) fun x22 w23 =>
    bd (a2 - a1) fun x25 =>
    gd ((sh w23 a0).1 = 12) <|
    kl (f_M_payerTells N a0 a1 x25 w23) fun x26 w27 =>
    some (x26, w27)) <|
  cd (x6 = 6) (
    f_M_tellsAct_b36 N a0 a1 a2 w) <|
  f_M_tellsAct_b73 N a0 a1 a2 w
def f_M_tellsAct (N : Nat) (a0 : Nat) (a1 : Int32) (a2 : Int32) (w : gW) : Option (Int32 × gW) := f_M_tellsAct_b0 N a0 a1 a2 w
def f_M_act_b0 (N : Nat) (a0 : Nat) (a1 : Int32) (a2 : Int32) (a3 : Int32) (w : gW) : Option (Int32 × gW) :=
  gd ((sh w a0).1 = 12) <|
  bd (sI w a0 66 0) fun w2 =>
  gd ((sh w2 a0).1 = 12) <|
  kl (f_M_isPayer N a0 a1 w2) fun x3 w4 =>
  cd (x3 = 0) (
    some (0, w4)) <|
  gd ((sh w4 a0).1 = 12) <|
  kl (f_M_in N a0 a2 0 2 w4) fun x7 w8 =>
  cd (x7 = 0) (
  some (0, w8)) <|
    cd (a2 = 0) (
    gd ((sh w8 a0).1 = 12) <|
    kl (f_M_countsAct N a0 a1 a3 w8) fun x19 w20 =>
    some (x19, w20)) <|
      cd (a2 = 1) (
      gd ((sh w8 a0).1 = 12) <|
      kl (f_M_handsAct N a0 a1 a3 w8) fun x15 w16 =>
      some (x15, w16)) <|
        gd ((sh w8 a0).1 = 12) <|
        kl (f_M_tellsAct N a0 a1 a3 w8) fun x11 w12 =>
        some (x11, w12)
def f_M_act (N : Nat) (a0 : Nat) (a1 : Int32) (a2 : Int32) (a3 : Int32) (w : gW) : Option (Int32 × gW) := f_M_act_b0 N a0 a1 a2 a3 w
def f_M_trace_b0 (N : Nat) (a0 : Nat) (a1 : Int32) (w : gW) : Option (Int32 × gW) :=
  gd ((sh w a0).1 = 12) <|
  kl (f_M_in N a0 a1 0 19 w) fun x1 w2 =>
  cd (x1 = 0) (
    some ((-1), w2)) <|
  gd ((sh w2 a0).1 = 12) <|
  bd (gI w2 a0 66) fun x6 =>
  cd (x6 ≤ a1) (
    some ((-1), w2)) <|
  rr (gR w2 a0 67) fun x7 =>
  gd ((sh w2 x7).1 = 50) <|
  gd (¬ (a1 < 0 ∨ (sh w2 x7).2 ≤ a1.toNatClampNeg)) <|
  bd (gI w2 x7 a1.toNatClampNeg) fun x11 =>
  some (x11, w2)
def f_M_trace (N : Nat) (a0 : Nat) (a1 : Int32) (w : gW) : Option (Int32 × gW) := f_M_trace_b0 N a0 a1 w
def f_M_taken_b61 (N : Nat) (a2 : Int32) (a3 : Int32) (w : gW) : Option (Int32 × gW) :=
  cd (a2 = 3) (
  cd (a3 = 6) (
  some (a3, w)) <|
    some ((-12), w)) <|
    some ((-12), w)
def f_M_taken_b51 (N : Nat) (a2 : Int32) (a3 : Int32) (w : gW) : Option (Int32 × gW) :=
  cd (a2 = 2) (
  cd (a3 = 5) (
    some (a3, w)) <|
  f_M_taken_b61 N a2 a3 w) <|
    f_M_taken_b61 N a2 a3 w
def f_M_taken_b0 (N : Nat) (a0 : Nat) (a1 : Int32) (a2 : Int32) (w : gW) : Option (Int32 × gW) :=
  gd ((sh w a0).1 = 12) <|
  kl (f_M_in N a0 a2 0 6 w) fun x1 w2 =>
  cd (x1 = 0) (
  some ((-2), w2)) <|
    gd ((sh w2 a0).1 = 12) <|
    kl (f_M_isPayer N a0 a1 w2) fun x5 w6 =>
    cd (x5 = 0) (
    some ((-11), w6)) <|
      gd ((sh w6 a0).1 = 12) <|
      rr (gR w6 a0 2) fun x10 =>
      gd ((sh w6 x10).1 = 50) <|
      gd (¬ (a1 < 0 ∨ (sh w6 x10).2 ≤ a1.toNatClampNeg)) <|
      bd (gI w6 x10 a1.toNatClampNeg) fun x14 =>
      cd (a2 = 0) (
        some (x14, w6)) <|
      cd (x14 = a2) (
        some (x14, w6)) <|
      cd (a2 = 1) (
      cd (x14 = 4) (
        some (x14, w6)) <|
      f_M_taken_b51 N a2 x14 w6) <|
        f_M_taken_b51 N a2 x14 w6
def f_M_taken (N : Nat) (a0 : Nat) (a1 : Int32) (a2 : Int32) (w : gW) : Option (Int32 × gW) := f_M_taken_b0 N a0 a1 a2 w
def f_M_count_b0 (N : Nat) (a0 : Nat) (a1 : Int32) (w : gW) : Option (Int32 × gW) :=
  cd (a1 = 0) (
    gd ((sh w a0).1 = 12) <|
    bd (gI w a0 0) fun x3 =>
    some (x3, w)) <|
  cd (a1 = 1) (
    gd ((sh w a0).1 = 12) <|
    bd (gI w a0 8) fun x6 =>
    some (x6, w)) <|
  cd (a1 = 2) (
    gd ((sh w a0).1 = 12) <|
    bd (gI w a0 41) fun x9 =>
    some (x9, w)) <|
  cd (a1 = 3) (
    gd ((sh w a0).1 = 12) <|
    bd (gI w a0 43) fun x12 =>
    some (x12, w)) <|
  cd (a1 = 4) (
    gd ((sh w a0).1 = 12) <|
    bd (gI w a0 46) fun x15 =>
    some (x15, w)) <|
  cd (a1 = 5) (
    gd ((sh w a0).1 = 12) <|
    bd (gI w a0 10) fun x18 =>
    some (x18, w)) <|
  cd (a1 = 6) (
    gd ((sh w a0).1 = 12) <|
    bd (gI w a0 66) fun x21 =>
    some (x21, w)) <|
  some ((-2), w)
def f_M_count (N : Nat) (a0 : Nat) (a1 : Int32) (w : gW) : Option (Int32 × gW) := f_M_count_b0 N a0 a1 w
def f_M_tape_b69 (N : Nat) (rec69 : Nat × Int32 × Int32 × gW → Option (Int32 × gW)) (a0 : Nat) (a1 : Int32) (a4 : Int32) (w : gW) : Option (Int32 × gW) :=
  cd ((60 : Int32) ≤ a4) (
    some (1, w)) <|
  gd ((sh w a0).1 = 12) <|
  rr (gR w a0 70) fun x22 =>
  bd (60 * a1) fun x24 =>
  bd (x24 + a4) fun x25 =>
  gd ((sh w x22).1 = 52) <|
  gd (¬ (x25 < 0 ∨ (sh w x22).2 ≤ x25.toNatClampNeg)) <|
  bd (sL w x22 x25.toNatClampNeg 0) fun w28 =>
  bd (a4 + 1) fun x29 =>
  rec69 (a0, a1, x29, w28)
def f_M_tape_l69 (N : Nat) (a0 : Nat) (a1 : Int32) (a4 : Int32) (w : gW) : Option (Int32 × gW) :=
  itr (fun rec (q : Nat × Int32 × Int32 × gW) => f_M_tape_b69 N rec q.1 q.2.1 q.2.2.1 q.2.2.2) N (a0, a1, a4, w)
def f_M_tape_b65 (N : Nat) (a0 : Nat) (a1 : Int32) (z0 : Int32) (z1 : Int32) (z2 : Nat) (w : gW) : Option (Int32 × gW) :=
  gd ((sh w z2).1 = 50) <|
  gd (¬ (z1 < 0 ∨ (sh w z2).2 ≤ z1.toNatClampNeg)) <|
  bd (sI w z2 z1.toNatClampNeg z0) fun w20 =>
  f_M_tape_l69 N a0 a1 0 w20
def f_M_tape_b44 (N : Nat) (a0 : Nat) (a1 : Int32) (a2 : Int32) (a3 : Int32) (w : gW) : Option (Int32 × gW) :=
  gd ((sh w a0).1 = 12) <|
  rr (gR w a0 68) fun x10 =>
  gd ((sh w x10).1 = 50) <|
  gd (¬ (a1 < 0 ∨ (sh w x10).2 ≤ a1.toNatClampNeg)) <|
  bd (sI w x10 a1.toNatClampNeg a2) fun w14 =>
  gd ((sh w14 a0).1 = 12) <|
  rr (gR w14 a0 69) fun x16 =>
  cd ((0 : Int32) ≤ a2) (
    f_M_tape_b65 N a0 a1 a3 a1 x16 w14) <|
  f_M_tape_b65 N a0 a1 0 a1 x16 w14
def f_M_tape_b33 (N : Nat) (a0 : Nat) (a1 : Int32) (a2 : Int32) (a3 : Int32) (w : gW) : Option (Int32 × gW) :=
  cd (a2 < 0) (
    f_M_tape_b44 N a0 a1 a2 a3 w) <|
  cd ((0 : Int32) ≤ a3) (
    f_M_tape_b44 N a0 a1 a2 a3 w) <|
  some ((-14), w)
def f_M_tape_b0 (N : Nat) (a0 : Nat) (a1 : Int32) (a2 : Int32) (a3 : Int32) (w : gW) : Option (Int32 × gW) :=
  gd ((sh w a0).1 = 12) <|
  kl (f_M_isTape N a0 a1 w) fun x1 w2 =>
  cd (x1 = 0) (
  some ((-1), w2)) <|
    gd ((sh w2 a0).1 = 12) <|
    kl (f_M_in N a0 a2 (-1) 4 w2) fun x5 w6 =>
    cd (x5 = 0) (
      some ((-2), w6)) <|
    cd (a2 < 0) (
      f_M_tape_b33 N a0 a1 a2 a3 w6) <|
    cd (a3 ≤ 60) (
      f_M_tape_b33 N a0 a1 a2 a3 w6) <|
    some ((-2), w6)
def f_M_tape (N : Nat) (a0 : Nat) (a1 : Int32) (a2 : Int32) (a3 : Int32) (w : gW) : Option (Int32 × gW) := f_M_tape_b0 N a0 a1 a2 a3 w
def f_M_narrow_b0 (N : Nat) (a1 : Int32) (a2 : Int64) (w : gW) : Option (Int64 × gW) :=
  cd (a1 = 0) (
  bd (a2.toInt32) fun x7 =>
  bd (x7.toInt8.toInt32) fun x8 =>
  bd (x8.toInt64) fun x9 =>
  some (x9, w)) <|
    cd (a1 = 1) (
    bd (a2.toInt32) fun x4 =>
    bd (x4.toInt16.toInt32) fun x5 =>
    bd (x5.toInt64) fun x6 =>
    some (x6, w)) <|
      cd (a1 = 2) (
      bd (a2.toInt32) fun x2 =>
      bd (x2.toInt64) fun x3 =>
      some (x3, w)) <|
        cd (a1 = 4) (
        bd (lg_cmp a2 0) fun x1 =>
        cd (x1 = 0) (
          some (0, w)) <|
        some (1, w)) <|
          some (a2, w)
def f_M_narrow (N : Nat) (a0 : Nat) (a1 : Int32) (a2 : Int64) (w : gW) : Option (Int64 × gW) := f_M_narrow_b0 N a1 a2 w
def f_M_item_b0 (N : Nat) (a0 : Nat) (a1 : Int32) (a2 : Int32) (a3 : Int64) (w : gW) : Option (Int32 × gW) :=
  gd ((sh w a0).1 = 12) <|
  kl (f_M_isTape N a0 a1 w) fun x1 w2 =>
  cd (x1 = 0) (
  some ((-1), w2)) <|
    gd ((sh w2 a0).1 = 12) <|
    rr (gR w2 a0 68) fun x6 =>
    gd ((sh w2 x6).1 = 50) <|
    gd (¬ (a1 < 0 ∨ (sh w2 x6).2 ≤ a1.toNatClampNeg)) <|
    bd (gI w2 x6 a1.toNatClampNeg) fun x10 =>
    cd ((0 : Int32) ≤ x10) (
      rr (gR w2 a0 69) fun x11 =>
      gd ((sh w2 x11).1 = 50) <|
      gd (¬ (a1 < 0 ∨ (sh w2 x11).2 ≤ a1.toNatClampNeg)) <|
      bd (gI w2 x11 a1.toNatClampNeg) fun x15 =>
      bd (x15 - 1) fun x16 =>
      kl (f_M_in N a0 a2 0 x16 w2) fun x17 w18 =>
      cd (x17 = 0) (
      some ((-13), w18)) <|
        gd ((sh w18 a0).1 = 12) <|
        rr (gR w18 a0 70) fun x21 =>
        bd (60 * a1) fun x23 =>
        bd (x23 + a2) fun x24 =>
        rr (gR w18 a0 68) fun x25 =>
        gd ((sh w18 x25).1 = 50) <|
        gd (¬ (a1 < 0 ∨ (sh w18 x25).2 ≤ a1.toNatClampNeg)) <|
        bd (gI w18 x25 a1.toNatClampNeg) fun x29 =>
        kl (f_M_narrow N a0 x29 a3 w18) fun x30 w31 =>
        gd ((sh w31 x21).1 = 52) <|
        gd (¬ (x24 < 0 ∨ (sh w31 x21).2 ≤ x24.toNatClampNeg)) <|
        bd (sL w31 x21 x24.toNatClampNeg x30) fun w35 =>
        some (1, w35)) <|
    some ((-11), w2)
def f_M_item (N : Nat) (a0 : Nat) (a1 : Int32) (a2 : Int32) (a3 : Int64) (w : gW) : Option (Int32 × gW) := f_M_item_b0 N a0 a1 a2 a3 w
def f_M_read_b0 (N : Nat) (a0 : Nat) (a1 : Int32) (a2 : Int32) (w : gW) : Option (Int64 × gW) :=
  gd ((sh w a0).1 = 12) <|
  kl (f_M_isTape N a0 a1 w) fun x1 w2 =>
  cd (x1 = 0) (
    some ((-9223372036854775808), w2)) <|
  gd ((sh w2 a0).1 = 12) <|
  rr (gR w2 a0 68) fun x6 =>
  gd ((sh w2 x6).1 = 50) <|
  gd (¬ (a1 < 0 ∨ (sh w2 x6).2 ≤ a1.toNatClampNeg)) <|
  bd (gI w2 x6 a1.toNatClampNeg) fun x10 =>
  cd (x10 < 0) (
    some ((-9223372036854775808), w2)) <|
  rr (gR w2 a0 69) fun x11 =>
  gd ((sh w2 x11).1 = 50) <|
  gd (¬ (a1 < 0 ∨ (sh w2 x11).2 ≤ a1.toNatClampNeg)) <|
  bd (gI w2 x11 a1.toNatClampNeg) fun x15 =>
  bd (x15 - 1) fun x16 =>
  kl (f_M_in N a0 a2 0 x16 w2) fun x17 w18 =>
  cd (x17 = 0) (
  some ((-9223372036854775808), w18)) <|
    gd ((sh w18 a0).1 = 12) <|
    rr (gR w18 a0 70) fun x21 =>
    bd (60 * a1) fun x23 =>
    bd (x23 + a2) fun x24 =>
    gd ((sh w18 x21).1 = 52) <|
    gd (¬ (x24 < 0 ∨ (sh w18 x21).2 ≤ x24.toNatClampNeg)) <|
    bd (gL w18 x21 x24.toNatClampNeg) fun x27 =>
    some (x27, w18)
def f_M_read (N : Nat) (a0 : Nat) (a1 : Int32) (a2 : Int32) (w : gW) : Option (Int64 × gW) := f_M_read_b0 N a0 a1 a2 w
def f_M_shift_b141 (N : Nat) (rec141 : Nat × Int32 × Int32 × Int32 × Int32 × gW → Option (Int32 × gW)) (a0 : Nat) (a3 : Int32) (a4 : Int32) (a5 : Int32) (a6 : Int32) (w : gW) : Option (Int32 × gW) :=
  cd (a5 ≤ a6) (
    some (a5, w)) <|
  gd ((sh w a0).1 = 12) <|
  rr (gR w a0 70) fun x29 =>
  bd (60 * a3) fun x31 =>
  bd (x31 + a4) fun x32 =>
  bd (x32 + a6) fun x33 =>
  rr (gR w a0 71) fun x34 =>
  gd ((sh w x34).1 = 52) <|
  gd (¬ (a6 < 0 ∨ (sh w x34).2 ≤ a6.toNatClampNeg)) <|
  bd (gL w x34 a6.toNatClampNeg) fun x38 =>
  gd ((sh w x29).1 = 52) <|
  gd (¬ (x33 < 0 ∨ (sh w x29).2 ≤ x33.toNatClampNeg)) <|
  bd (sL w x29 x33.toNatClampNeg x38) fun w41 =>
  bd (a6 + 1) fun x42 =>
  rec141 (a0, a3, a4, a5, x42, w41)
def f_M_shift_l141 (N : Nat) (a0 : Nat) (a3 : Int32) (a4 : Int32) (a5 : Int32) (a6 : Int32) (w : gW) : Option (Int32 × gW) :=
  itr (fun rec (q : Nat × Int32 × Int32 × Int32 × Int32 × gW) => f_M_shift_b141 N rec q.1 q.2.1 q.2.2.1 q.2.2.2.1 q.2.2.2.2.1 q.2.2.2.2.2) N (a0, a3, a4, a5, a6, w)
def f_M_shift_b104 (N : Nat) (rec104 : Nat × Int32 × Int32 × Int32 × Int32 × Int32 × Int32 × gW → Option (Int32 × gW)) (a0 : Nat) (a1 : Int32) (a2 : Int32) (a3 : Int32) (a4 : Int32) (a5 : Int32) (a6 : Int32) (w : gW) : Option (Int32 × gW) :=
  cd (a5 ≤ a6) (
    f_M_shift_l141 N a0 a3 a4 a5 0 w) <|
  gd ((sh w a0).1 = 12) <|
  rr (gR w a0 71) fun x44 =>
  rr (gR w a0 70) fun x46 =>
  bd (60 * a1) fun x48 =>
  bd (x48 + a2) fun x49 =>
  bd (x49 + a6) fun x50 =>
  gd ((sh w x46).1 = 52) <|
  gd (¬ (x50 < 0 ∨ (sh w x46).2 ≤ x50.toNatClampNeg)) <|
  bd (gL w x46 x50.toNatClampNeg) fun x53 =>
  gd ((sh w x44).1 = 52) <|
  gd (¬ (a6 < 0 ∨ (sh w x44).2 ≤ a6.toNatClampNeg)) <|
  bd (sL w x44 a6.toNatClampNeg x53) fun w56 =>
  bd (a6 + 1) fun x57 =>
  rec104 (a0, a1, a2, a3, a4, a5, x57, w56)
def f_M_shift_l104 (N : Nat) (a0 : Nat) (a1 : Int32) (a2 : Int32) (a3 : Int32) (a4 : Int32) (a5 : Int32) (a6 : Int32) (w : gW) : Option (Int32 × gW) :=
  itr (fun rec (q : Nat × Int32 × Int32 × Int32 × Int32 × Int32 × Int32 × gW) => f_M_shift_b104 N rec q.1 q.2.1 q.2.2.1 q.2.2.2.1 q.2.2.2.2.1 q.2.2.2.2.2.1 q.2.2.2.2.2.2.1 q.2.2.2.2.2.2.2) N (a0, a1, a2, a3, a4, a5, a6, w)
def f_M_shift_b0 (N : Nat) (a0 : Nat) (a1 : Int32) (a2 : Int32) (a3 : Int32) (a4 : Int32) (a5 : Int32) (w : gW) : Option (Int32 × gW) :=
  gd ((sh w a0).1 = 12) <|
  kl (f_M_isTape N a0 a1 w) fun x1 w2 =>
  cd (x1 = 0) (
    some ((-1), w2)) <|
  gd ((sh w2 a0).1 = 12) <|
  kl (f_M_isTape N a0 a3 w2) fun x5 w6 =>
  cd (x5 = 0) (
  some ((-1), w6)) <|
    gd ((sh w6 a0).1 = 12) <|
    rr (gR w6 a0 68) fun x10 =>
    gd ((sh w6 x10).1 = 50) <|
    gd (¬ (a1 < 0 ∨ (sh w6 x10).2 ≤ a1.toNatClampNeg)) <|
    bd (gI w6 x10 a1.toNatClampNeg) fun x14 =>
    cd (x14 < 0) (
      some ((-11), w6)) <|
    gd (¬ (a3 < 0 ∨ (sh w6 x10).2 ≤ a3.toNatClampNeg)) <|
    bd (gI w6 x10 a3.toNatClampNeg) fun x16 =>
    cd ((0 : Int32) ≤ x16) (
      bd (gI w6 x10 a1.toNatClampNeg) fun x17 =>
      bd (gI w6 x10 a3.toNatClampNeg) fun x18 =>
      cd (x17 = x18) (
        cd (a5 < 0) (
          some ((-13), w6)) <|
        cd (a2 < 0) (
          some ((-13), w6)) <|
        cd (a4 < 0) (
          some ((-13), w6)) <|
        rr (gR w6 a0 69) fun x19 =>
        gd ((sh w6 x19).1 = 50) <|
        gd (¬ (a1 < 0 ∨ (sh w6 x19).2 ≤ a1.toNatClampNeg)) <|
        bd (gI w6 x19 a1.toNatClampNeg) fun x23 =>
        bd (x23 - a5) fun x24 =>
        cd (x24 < a2) (
          some ((-13), w6)) <|
        gd (¬ (a3 < 0 ∨ (sh w6 x19).2 ≤ a3.toNatClampNeg)) <|
        bd (gI w6 x19 a3.toNatClampNeg) fun x26 =>
        bd (x26 - a5) fun x27 =>
        cd (a4 ≤ x27) (
          f_M_shift_l104 N a0 a1 a2 a3 a4 a5 0 w6) <|
        some ((-13), w6)) <|
      some ((-12), w6)) <|
    some ((-11), w6)
def f_M_shift (N : Nat) (a0 : Nat) (a1 : Int32) (a2 : Int32) (a3 : Int32) (a4 : Int32) (a5 : Int32) (w : gW) : Option (Int32 × gW) := f_M_shift_b0 N a0 a1 a2 a3 a4 a5 w
