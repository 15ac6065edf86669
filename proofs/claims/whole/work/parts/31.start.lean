/-! ===== what the law knows at its start; the claim out of one pure run ===== -/
theorem nA {args : Array Value} {s : State} (h : (Jvm.Cond.and given_1 narrow_1).before args s = true) {c : Cond} (i : Nat) (hi : (flatC (Jvm.Cond.and given_1 narrow_1))[i]? = some c) : c.before args s = true := flat_of_before _ h _ (List.mem_of_getElem? hi)
theorem gX_start {args : Array Value} {s : State} (hts : ∀ w ∈ lw_tbl, w.before args s = true) : ∃ (D : va_G) (cA : Nat → ClassId), gX D cA s := by
  have hg : ∀ w ∈ lw_good, w.before args s = true := fun w h => hts w (List.mem_filter.mp h).1
  have h1 : ∀ c : Nat, ∃ z : ClassId × (Nat → Nat), ∀ q : vw_C, gcl[c]? = some q → u_Kn s q.1 q.2.1 q.2.2 z.1 z.2 := by
    intro c
    match c with
    | 0 => obtain ⟨cC, iS, h⟩ := u_known (C := "RidCoppers$Payer") (T := T_P) (N := 3) (n := 3) hg i_P (hg _ m_364); exact ⟨(cC, iS), fun q hq => by cases hq; exact h⟩
    | 1 => obtain ⟨cC, iS, h⟩ := u_known (C := "RidCoppers$Exact") (T := T_P) (N := 3) (n := 3) hg i_E (hg _ m_282); exact ⟨(cC, iS), fun q hq => by cases hq; exact h⟩
    | 2 => obtain ⟨cC, iS, h⟩ := u_known (C := "RidCoppers$Rough") (T := T_P) (N := 3) (n := 3) hg i_Ro (hg _ m_314); exact ⟨(cC, iS), fun q hq => by cases hq; exact h⟩
    | 3 => obtain ⟨cC, iS, h⟩ := u_known (C := "RidCoppers$Keeper") (T := T_P) (N := 3) (n := 3) hg i_Ke (hg _ m_324); exact ⟨(cC, iS), fun q hq => by cases hq; exact h⟩
    | 4 => obtain ⟨cC, iS, h⟩ := u_known (C := "RidCoppers$Light") (T := T_P) (N := 3) (n := 3) hg i_Li (hg _ m_334); exact ⟨(cC, iS), fun q hq => by cases hq; exact h⟩
    | 5 => obtain ⟨cC, iS, h⟩ := u_known (C := "RidCoppers$Wild") (T := T_P) (N := 3) (n := 3) hg i_Wi (hg _ m_344); exact ⟨(cC, iS), fun q hq => by cases hq; exact h⟩
    | 6 => obtain ⟨cC, iS, h⟩ := u_known (C := "RidCoppers$Told") (T := T_P) (N := 3) (n := 3) hg i_To (hg _ m_354); exact ⟨(cC, iS), fun q hq => by cases hq; exact h⟩
    | 7 => obtain ⟨cC, iS, h⟩ := u_known (C := "RidCoppers$Town") (T := T_Tn) (N := 13) (n := 13) hg i_Tn (hg _ m_31); exact ⟨(cC, iS), fun q hq => by cases hq; exact h⟩
    | 8 => obtain ⟨cC, iS, h⟩ := u_known (C := "RidCoppers$Trace") (T := T_Tr) (N := 2) (n := 2) hg i_Tr (hg _ m_213); exact ⟨(cC, iS), fun q hq => by cases hq; exact h⟩
    | 9 => obtain ⟨cC, iS, h⟩ := u_known (C := "RidCoppers$World") (T := T_Wo) (N := 15) (n := 15) hg i_Wo (hg _ m_83); exact ⟨(cC, iS), fun q hq => by cases hq; exact h⟩
    | 10 => obtain ⟨cC, iS, h⟩ := u_known (C := "RidCoppers$Payment") (T := T_Pm) (N := 10) (n := 10) hg i_Pm (hg _ m_162); exact ⟨(cC, iS), fun q hq => by cases hq; exact h⟩
    | 11 => obtain ⟨cC, iS, h⟩ := u_known (C := "RidCoppers") (T := T_X) (N := 14) (n := 14) hg i_X (hg _ m_23); exact ⟨(cC, iS), fun q hq => by cases hq; exact h⟩
    | 12 => obtain ⟨cC, iS, h⟩ := u_known (C := "RidCoppersModel") (T := T_M) (N := 72) (n := 72) hg i_M (hg _ m_977); exact ⟨(cC, iS), fun q hq => by cases hq; exact h⟩
    | c + 13 => exact ⟨(0, fun _ => 0), fun q hq => by simp [gcl] at hq⟩
  have h2 : ∀ k : Nat, ∃ z : ClassId, 50 ≤ k → k < 58 → ArrOfT s z (gAT k) ∧ va_RA s z (gAT k) := by
    intro k
    by_cases hk : 50 ≤ k ∧ k < 58
    · have hc : k = 50 ∨ k = 51 ∨ k = 52 ∨ k = 53 ∨ k = 54 ∨ k = 55 ∨ k = 56 ∨ k = 57 := by omega
      rcases hc with rfl | rfl | rfl | rfl | rfl | rfl | rfl | rfl
      · obtain ⟨c, k, comp, g1, g2, g3⟩ := Cond.arrayClass_spec (hg _ m_81)
        exact ⟨c, fun _ _ => ⟨fun n z => ⟨fun k h => (by cases h), k, g2, comp, g3⟩, g1⟩⟩
      · obtain ⟨c, k, comp, g1, g2, g3⟩ := Cond.arrayClass_spec (hg _ m_227)
        exact ⟨c, fun _ _ => ⟨fun n z => ⟨fun k h => (by cases h), k, g2, comp, g3⟩, g1⟩⟩
      · obtain ⟨c, k, comp, g1, g2, g3⟩ := Cond.arrayClass_spec (hg _ m_273)
        exact ⟨c, fun _ _ => ⟨fun n z => ⟨fun k h => (by cases h), k, g2, comp, g3⟩, g1⟩⟩
      · obtain ⟨c, k, comp, g1, g2, g3⟩ := Cond.arrayClass_spec (hg _ m_1199)
        exact ⟨c, fun _ _ => ⟨fun n z => ⟨fun k h => (by cases h), k, g2, comp, g3⟩, g1⟩⟩
      · obtain ⟨comp, c, k, g1, g2, g3, g4, g5⟩ := Cond.arrayOver_spec (hts _ m_89)
        exact ⟨c, fun _ _ => ⟨fun n z => ⟨fun k h => (by cases h), k, g3, comp, g4⟩, ⟨k, comp, g3, g4, g1, g5⟩⟩⟩
      · obtain ⟨comp, c, k, g1, g2, g3, g4, g5⟩ := Cond.arrayOver_spec (hts _ m_211)
        exact ⟨c, fun _ _ => ⟨fun n z => ⟨fun k h => (by cases h), k, g3, comp, g4⟩, ⟨k, comp, g3, g4, g1, g5⟩⟩⟩
      · obtain ⟨comp, c, k, g1, g2, g3, g4, g5⟩ := arrayOverA_spec (hts _ m_91)
        exact ⟨c, fun _ _ => ⟨fun n z => ⟨fun k h => (by cases h), k, g3, comp, g4⟩, g5⟩⟩
      · obtain ⟨comp, c, k, g1, g2, g3, g4, g5⟩ := arrayOverA_spec (hts _ m_229)
        exact ⟨c, fun _ _ => ⟨fun n z => ⟨fun k h => (by cases h), k, g3, comp, g4⟩, g5⟩⟩
    · exact ⟨0, fun a b => absurd ⟨a, b⟩ hk⟩
  obtain ⟨f, hf⟩ := Classical.axiomOfChoice h1
  obtain ⟨g, hg2⟩ := Classical.axiomOfChoice h2
  exact ⟨(fun c => (f c).1, fun c => (f c).2), g, fun c q hq => hf c q hq, fun k a b => hg2 k a b⟩
theorem gK_start {args : Array Value} {s : State} (hts : ∀ w ∈ lw_tbl, w.before args s = true) (hgv : (Jvm.Cond.and given_1 narrow_1).before args s = true) : ∃ (D : va_G) (cA : Nat → ClassId) (oc : gO), gK D cA oc s.heap.size s s.heap := by
  obtain ⟨D, cA, hX⟩ := gX_start hts
  have hg : ∀ w ∈ lw_good, w.before args s = true := fun w h => hts w (List.mem_filter.mp h).1
  have hA : ∀ a : Nat, a < s.heap.size → ¬ gA s.heap.size a := fun a h q => by unfold gA at q; omega
  obtain ⟨t, ht, hT⟩ := va_Tof (tm := .static "RidCoppers" "WORTH" "[I") (ty := .int) (N := 6) (f := fun j => .int (gWorth j)) (A := gA s.heap.size) (by decide) (nA hgv 5 rfl) (va_eqt (nA hgv 6 rfl)) (fun j hj => by
    match j, hj with
    | 0, _ => exact va_eqt (nA hgv 7 rfl)
    | 1, _ => exact va_eqt (nA hgv 8 rfl)
    | 2, _ => exact va_eqt (nA hgv 9 rfl)
    | 3, _ => exact va_eqt (nA hgv 10 rfl)
    | 4, _ => exact va_eqt (nA hgv 11 rfl)
    | 5, _ => exact va_eqt (nA hgv 12 rfl)
    | j + 6, h => exact absurd h (by omega)) hA
  obtain ⟨adK, adV, hE, hev⟩ := vk_Sof (args := args) (s := s) (N := 5) (tm := (fun i : Nat => Jvm.Term.string "RidCoppers$Town" (match i with | 0 => 120 | 1 => 122 | 2 => 124 | 3 => 146 | _ => 152))) (len := gLen) (byt := gByt) (A := gA s.heap.size)
    (fun i hi => by
    match i, hi with
    | 0, _ => decide
    | 1, _ => decide
    | 2, _ => decide
    | 3, _ => decide
    | 4, _ => decide
    | i + 5, h => exact absurd h (by omega))
    (fun i hi => by
    match i, hi with
    | 0, _ => exact nA hgv 161 rfl
    | 1, _ => exact nA hgv 169 rfl
    | 2, _ => exact nA hgv 178 rfl
    | 3, _ => exact nA hgv 188 rfl
    | 4, _ => exact nA hgv 201 rfl
    | i + 5, h => exact absurd h (by omega))
    (fun i hi => by
    match i, hi with
    | 0, _ => exact nA hgv 162 rfl
    | 1, _ => exact nA hgv 170 rfl
    | 2, _ => exact nA hgv 179 rfl
    | 3, _ => exact nA hgv 189 rfl
    | 4, _ => exact nA hgv 202 rfl
    | i + 5, h => exact absurd h (by omega))
    (fun i hi => by
    match i, hi with
    | 0, _ => exact nA hgv 163 rfl
    | 1, _ => exact nA hgv 171 rfl
    | 2, _ => exact nA hgv 180 rfl
    | 3, _ => exact nA hgv 190 rfl
    | 4, _ => exact nA hgv 203 rfl
    | i + 5, h => exact absurd h (by omega))
    (fun i hi => by
    match i, hi with
    | 0, _ => exact nA hgv 164 rfl
    | 1, _ => exact nA hgv 172 rfl
    | 2, _ => exact nA hgv 181 rfl
    | 3, _ => exact nA hgv 191 rfl
    | 4, _ => exact nA hgv 204 rfl
    | i + 5, h => exact absurd h (by omega))
    (fun i hi => by
    match i, hi with
    | 0, _ => exact (fun j hj => by
        match j, hj with
        | 0, _ => exact nA hgv 165 rfl
        | 1, _ => exact nA hgv 166 rfl
        | 2, _ => exact nA hgv 167 rfl
        | 3, _ => exact nA hgv 168 rfl
        | j + 4, h => exact absurd h (by simp))
    | 1, _ => exact (fun j hj => by
        match j, hj with
        | 0, _ => exact nA hgv 173 rfl
        | 1, _ => exact nA hgv 174 rfl
        | 2, _ => exact nA hgv 175 rfl
        | 3, _ => exact nA hgv 176 rfl
        | j + 4, h => exact absurd h (by simp))
    | 2, _ => exact (fun j hj => by
        match j, hj with
        | 0, _ => exact nA hgv 182 rfl
        | 1, _ => exact nA hgv 183 rfl
        | 2, _ => exact nA hgv 184 rfl
        | 3, _ => exact nA hgv 185 rfl
        | j + 4, h => exact absurd h (by simp))
    | 3, _ => exact (fun j hj => by
        match j, hj with
        | 0, _ => exact nA hgv 192 rfl
        | 1, _ => exact nA hgv 193 rfl
        | 2, _ => exact nA hgv 194 rfl
        | 3, _ => exact nA hgv 195 rfl
        | 4, _ => exact nA hgv 196 rfl
        | 5, _ => exact nA hgv 197 rfl
        | j + 6, h => exact absurd h (by simp))
    | 4, _ => exact (fun j hj => by
        match j, hj with
        | 0, _ => exact nA hgv 205 rfl
        | 1, _ => exact nA hgv 206 rfl
        | 2, _ => exact nA hgv 207 rfl
        | j + 3, h => exact absurd h (by simp))
    | i + 5, h => exact absurd h (by omega))
    (fun i j hi hj hij => by
    match i, hi, j, hj with
    | 0, _, 0, _ => exact absurd rfl hij
    | 0, _, 1, _ => exact Or.inl (nA hgv 177 rfl)
    | 0, _, 2, _ => exact Or.inl (nA hgv 186 rfl)
    | 0, _, 3, _ => exact Or.inl (nA hgv 198 rfl)
    | 0, _, 4, _ => exact Or.inl (nA hgv 208 rfl)
    | 1, _, 0, _ => exact Or.inr (nA hgv 177 rfl)
    | 1, _, 1, _ => exact absurd rfl hij
    | 1, _, 2, _ => exact Or.inl (nA hgv 187 rfl)
    | 1, _, 3, _ => exact Or.inl (nA hgv 199 rfl)
    | 1, _, 4, _ => exact Or.inl (nA hgv 209 rfl)
    | 2, _, 0, _ => exact Or.inr (nA hgv 186 rfl)
    | 2, _, 1, _ => exact Or.inr (nA hgv 187 rfl)
    | 2, _, 2, _ => exact absurd rfl hij
    | 2, _, 3, _ => exact Or.inl (nA hgv 200 rfl)
    | 2, _, 4, _ => exact Or.inl (nA hgv 210 rfl)
    | 3, _, 0, _ => exact Or.inr (nA hgv 198 rfl)
    | 3, _, 1, _ => exact Or.inr (nA hgv 199 rfl)
    | 3, _, 2, _ => exact Or.inr (nA hgv 200 rfl)
    | 3, _, 3, _ => exact absurd rfl hij
    | 3, _, 4, _ => exact Or.inl (nA hgv 211 rfl)
    | 4, _, 0, _ => exact Or.inr (nA hgv 208 rfl)
    | 4, _, 1, _ => exact Or.inr (nA hgv 209 rfl)
    | 4, _, 2, _ => exact Or.inr (nA hgv 210 rfl)
    | 4, _, 3, _ => exact Or.inr (nA hgv 211 rfl)
    | 4, _, 4, _ => exact absurd rfl hij
    | i + 5, h, _, _ => exact absurd h (by omega)
    | _, _, j + 5, h => exact absurd h (by omega)) hA
  refine ⟨D, cA, (t, adK, adV), hX, ⟨va_Zof (hts _ m_390) (hg _ m_1) ht hA, hT, va_Zof (hts _ m_462) (hg _ m_14) (va_eqi (nA hgv 13 rfl)) hA, va_Zqof (hts _ m_478) (hg _ m_16) (nA hgv 14 rfl) hA, hE⟩, ?_⟩
  refine ⟨⟨⟨hts _ m_450, hev 0 (by decide)⟩, ⟨hts _ m_451, hev 1 (by decide)⟩, ⟨hts _ m_452, hev 2 (by decide)⟩, ⟨hts _ m_529, hev 3 (by decide)⟩, ⟨hts _ m_593, hev 4 (by decide)⟩⟩, ⟨va_Nw.of rfl (hts _ m_389), va_Nw.of rfl (hts _ m_699), va_Nw.of rfl (hts _ m_788), va_Nw.of rfl (hts _ m_163), va_Nw.of rfl (hts _ m_214)⟩, ⟨hts _ m_89, hts _ m_211, hts _ m_91, hts _ m_229⟩, ?_, ⟨va_Nw.of rfl (hts _ m_874), va_Nw.of rfl (hts _ m_909), va_Nw.of rfl (hts _ m_935)⟩, ?_⟩
  · exact List.forall_mem_cons.mpr ⟨va_Nw.of rfl (hts _ m_1573), List.forall_mem_cons.mpr ⟨va_Nw.of rfl (hts _ m_1574), List.forall_mem_cons.mpr ⟨va_Nw.of rfl (hts _ m_1575), List.forall_mem_cons.mpr ⟨va_Nw.of rfl (hts _ m_1576), List.forall_mem_cons.mpr ⟨va_Nw.of rfl (hts _ m_1577), List.forall_mem_cons.mpr ⟨va_Nw.of rfl (hts _ m_1578), List.forall_mem_cons.mpr ⟨va_Nw.of rfl (hts _ m_1579), List.forall_mem_cons.mpr ⟨va_Nw.of rfl (hts _ m_1580), List.forall_mem_cons.mpr ⟨va_Nw.of rfl (hts _ m_1581), fun _ h => absurd h List.not_mem_nil⟩⟩⟩⟩⟩⟩⟩⟩⟩
  · exact List.forall_mem_cons.mpr ⟨va_Nc.of (nA hgv 28 rfl), List.forall_mem_cons.mpr ⟨va_Nc.of (nA hgv 24 rfl), List.forall_mem_cons.mpr ⟨va_Nc.of (nA hgv 25 rfl), List.forall_mem_cons.mpr ⟨va_Nc.of (nA hgv 26 rfl), List.forall_mem_cons.mpr ⟨va_Nc.of (nA hgv 27 rfl), List.forall_mem_cons.mpr ⟨va_Nc.of (nA hgv 39 rfl), List.forall_mem_cons.mpr ⟨va_Nc.of (nA hgv 35 rfl), List.forall_mem_cons.mpr ⟨va_Nc.of (nA hgv 36 rfl), List.forall_mem_cons.mpr ⟨va_Nc.of (nA hgv 37 rfl), List.forall_mem_cons.mpr ⟨va_Nc.of (nA hgv 38 rfl), List.forall_mem_cons.mpr ⟨va_Nc.of (nA hgv 50 rfl), List.forall_mem_cons.mpr ⟨va_Nc.of (nA hgv 46 rfl), List.forall_mem_cons.mpr ⟨va_Nc.of (nA hgv 47 rfl), List.forall_mem_cons.mpr ⟨va_Nc.of (nA hgv 48 rfl), List.forall_mem_cons.mpr ⟨va_Nc.of (nA hgv 49 rfl), List.forall_mem_cons.mpr ⟨va_Nc.of (nA hgv 62 rfl), List.forall_mem_cons.mpr ⟨va_Nc.of (nA hgv 57 rfl), List.forall_mem_cons.mpr ⟨va_Nc.of (nA hgv 58 rfl), List.forall_mem_cons.mpr ⟨va_Nc.of (nA hgv 59 rfl), List.forall_mem_cons.mpr ⟨va_Nc.of (nA hgv 60 rfl), List.forall_mem_cons.mpr ⟨va_Nc.of (nA hgv 61 rfl), List.forall_mem_cons.mpr ⟨va_Nc.of (nA hgv 74 rfl), List.forall_mem_cons.mpr ⟨va_Nc.of (nA hgv 69 rfl), List.forall_mem_cons.mpr ⟨va_Nc.of (nA hgv 70 rfl), List.forall_mem_cons.mpr ⟨va_Nc.of (nA hgv 71 rfl), List.forall_mem_cons.mpr ⟨va_Nc.of (nA hgv 72 rfl), List.forall_mem_cons.mpr ⟨va_Nc.of (nA hgv 73 rfl), List.forall_mem_cons.mpr ⟨va_Nc.of (nA hgv 86 rfl), List.forall_mem_cons.mpr ⟨va_Nc.of (nA hgv 81 rfl), List.forall_mem_cons.mpr ⟨va_Nc.of (nA hgv 82 rfl), List.forall_mem_cons.mpr ⟨va_Nc.of (nA hgv 83 rfl), List.forall_mem_cons.mpr ⟨va_Nc.of (nA hgv 84 rfl), List.forall_mem_cons.mpr ⟨va_Nc.of (nA hgv 85 rfl), fun _ h => absurd h List.not_mem_nil⟩⟩⟩⟩⟩⟩⟩⟩⟩⟩⟩⟩⟩⟩⟩⟩⟩⟩⟩⟩⟩⟩⟩⟩⟩⟩⟩⟩⟩⟩⟩⟩⟩
def gW0 : gW := (0, (fun _ => (99, 0)), (fun _ _ => 0), (fun _ _ => 0), (fun _ _ => none))
theorem gRep0 {D : va_G} {cA : Nat → ClassId} {H : Heap} : gRep D cA H.size gW0 H := ⟨rfl, fun a h => absurd h (Nat.not_lt_zero _), fun _ _ => rfl⟩
theorem law_start {p : Program} {e : Env} {s : State} {m : MethodId} {below : List Frame} {meth : Method} {c : Code} (l : Launch) {b L N : Nat} {xs : Nat → Int32} {wz : gW} (hf : f_law N L xs gW0 = some (1, wz)) (C0 : lw_At p s m meth c b L xs) : W p l e room_1 s m #[Value.ref b] below meth c s.heap [] 0 0 (lw_Z below #[Value.ref b] s) (entryFrame m ([Value.ref b] : List Value).toArray 4) := by
  obtain ⟨hx, hb, hr, hml, hown, hts, hX, hbl, hlocks, hgv⟩ := C0
  obtain ⟨D, cA, oc, hK⟩ := gK_start hts hgv
  have hg : ∀ w ∈ lw_good, w.before #[Value.ref b] s = true := fun w h => hts w (List.mem_filter.mp h).1
  have C : gLw p s m meth c b L xs D cA oc s.heap.size := ⟨hx, hb, hml, hown, hg, hr, hlocks, hK, rfl, hX, hbl, fun q => by unfold gA at q; omega⟩
  have hl := lv_entry ([.ref b]) (n := 4) (Nat.le_of_ble_eq_true rfl)
  rw [lg_entry_eq]
  generalize (lg_sl ([.ref b]) ++ List.replicate (4 - (lg_sl ([.ref b])).length) Slot.unset).toArray = ls at hl ⊢
  have hl : lv_has ls 4 [(0, .ref b)] := hl
  exact c_Law_law_b0 C gW0 hl hf gRep0 va_S.rf
