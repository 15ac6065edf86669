/-! ===== new T[n][k] ===== -/
theorem outer_arr (c : ClassId) (N h0 : Nat) : ∀ i : Nat, Jvm.Free.Multi.outerC c N h0 i = arrV c N (fun j => va_rf (if j < i then some (h0 + 1 + j) else none))
  | 0 => by
    show ({ cls := c, slots := Array.replicate N .null, vm := .none } : Cell) = _
    rw [arrV_new]
    refine congrArg (arrV c N) (funext fun j => ?_)
    simp [va_rf]
  | i + 1 => by
    show (Jvm.Free.Multi.outerC c N h0 i).setSlot i (.ref (h0 + 1 + i)) = _
    rw [outer_arr c N h0 i, arrV_store]
    refine congrArg (arrV c N) (funext fun j => ?_)
    by_cases e : j = i
    · subst e
      simp [updV, va_rf]
    · by_cases h : j < i
      · simp [updV, e, h, Nat.lt_succ_of_lt h]
      · simp [updV, e, h, show ¬ j < i + 1 by omega]
section ROWS8
variable {p : Program} {l : Launch} {e : Env} {R : Room} {s : State} {m : MethodId} {args : Array Value} {below : List Frame} {meth : Method} {c : Code} {H : Heap} {locs : List Loc} {cells slots : Nat} {Q : State → Prop}
variable {cc : ByteArray} {pc : Nat} {ls : Array Slot} {rest : List Value} {D : va_G} {cA : Nat → ClassId} {oc : gO} {B : Nat} {w w1 : gW} {a : Nat} {own : String}
theorem gRep.multi (hR : gRep D cA B w H) {ko kd n len : Nat} {H1 : Heap} (hko : 50 ≤ ko ∧ ko < 58) (hkd : 50 ≤ kd ∧ kd < 58) (hto : ∀ u j, gVal B (gAT ko) u (nx w) j = va_rf ((gR u (nx w) j).map (B + ·))) (hf : gAT kd ≠ .float ∧ gAT kd ≠ .double) (z : H1.size = H.size + 1 + n) (oq : ∀ q : Nat, q < H.size → H1[q]? = H[q]?)
    (eo : H1[B + nx w]? = some (arrV (cA ko) n (fun j => va_rf (if j < n then some (B + nx w + 1 + j) else none)))) (ei : ∀ i : Nat, i < n → H1[B + nx w + 1 + i]? = some (arrV (cA kd) len (fun _ => defaultValue (gAT kd)))) : gRep D cA B (nm w ko kd n len) H1 := by
  have e1 : nx (nm w ko kd n len) = nx w + 1 + n := rfl
  have ew : nx w = w.1 := rfl
  refine ⟨by rw [z, e1, hR.1]; omega, fun b hb => ?_, fun b hb => ?_⟩
  · rw [e1] at hb
    by_cases c1 : b = w.1
    · subst c1
      unfold gCell
      have hs : sh (nm w ko kd n len) w.1 = (ko, n) := by simp [sh, nm]
      rw [hs, if_neg (by omega)]
      rw [ew] at eo hto
      rw [eo]
      congr 2
      funext j
      rw [hto]
      have hg : gR (nm w ko kd n len) w.1 j = if j < n then some (w.1 + 1 + j) else none := by simp [gR, nm]
      rw [hg]
      by_cases hj : j < n
      · simp only [if_pos hj, Option.map_some, va_rf]
        exact congrArg Value.ref (show B + w.1 + 1 + j = B + (w.1 + 1 + j) by omega)
      · simp only [if_neg hj, Option.map_none, va_rf]
    · by_cases c2 : w.1 < b
      · have hb2 : w.1 < b ∧ b < w.1 + 1 + n := ⟨c2, by omega⟩
        unfold gCell
        have hs : sh (nm w ko kd n len) b = (kd, len) := by simp [sh, nm, c1, hb2]
        rw [hs, if_neg (by omega)]
        have h1 := ei (b - (w.1 + 1)) (by omega)
        rw [show B + nx w + 1 + (b - (w.1 + 1)) = B + b by omega] at h1
        rw [h1]
        congr 2
        funext j
        have hle : w.1 ≤ b ∧ b < w.1 + 1 + n := ⟨by omega, hb2.2⟩
        have g1 : gI (nm w ko kd n len) b j = 0 := by simp [gI, nm, hle]
        have g2 : gL (nm w ko kd n len) b j = 0 := by simp [gL, nm, hle]
        have g3 : gR (nm w ko kd n len) b j = none := by simp [gR, nm, hle, c1]
        obtain ⟨hf1, hf2⟩ := hf
        show _ = gVal B (gAT kd) _ b j
        revert hf1 hf2
        generalize gAT kd = ty
        intro hf1 hf2
        cases ty <;> first | exact absurd rfl hf1 | exact absurd rfl hf2 | (simp only [gVal, g1]; rfl) | (simp only [gVal, g2]; rfl) | (simp only [gVal, g3]; rfl)
      · have hlt : b < nx w := by omega
        have n1 : ¬ (w.1 < b ∧ b < w.1 + 1 + n) := fun h => c2 h.1
        have n2 : ¬ (w.1 ≤ b ∧ b < w.1 + 1 + n) := by omega
        refine gCell_c (w := w) ?_ (fun k => ⟨?_, ?_, ?_⟩) (hR.2.1 b hlt) (oq _ (by rw [hR.1]; omega))
        · simp only [sh, nm, if_neg c1, if_neg n1]
        · simp only [gI, nm, if_neg n2]
        · simp only [gL, nm, if_neg n2]
        · simp only [gR, nm, if_neg c1, if_neg n2]
  · rw [e1] at hb
    have h := hR.2.2 b (by omega)
    have c1 : ¬ b = w.1 := by omega
    have n1 : ¬ (w.1 < b ∧ b < w.1 + 1 + n) := by omega
    simp only [sh, nm, if_neg c1, if_neg n1]
    exact h
theorem g_mna {ko kd idx N K : Nat} {ty : FieldType} {n k : Int32} (hexec : p.tables.exec = Jvm.exec) (hb : c.code = cc) (hts : ∀ w ∈ lw_good, w.before args s = true) (hown : s.vm.findClass own = some m.cls) (hK : gK D cA oc B s s.heap) (hR : gRep D cA B w H) (hS : va_S (gA B) s.heap H locs) (hko : 50 ≤ ko ∧ ko < 58) (hkd : 50 ≤ kd ∧ kd < 54) (hto : gAT ko = .array ty) (hti : gAT kd = ty) (hf : gAT kd ≠ .float ∧ gAT kd ≠ .double)
    (hcl : Cond.classLink own idx ("[" ++ (FieldType.array ty).toString) ∈ lw_good) (hov : (Cond.arrayOver (.array ty)).before #[] s = true) (hac : Cond.arrayClass ty ∈ lw_good) (hn : ¬ n < 0) (hk : ¬ k < 0) (hN : n.toNatClampNeg = N) (hKe : k.toNatClampNeg = K) (hb1 : N * 4 ≤ 536870912) (hb2 : K * componentBytes ty ≤ 536870912) (hb3 : K ≤ 536870912) (hdf : fits ty (defaultValue ty) = true) (hdd : (defaultValue ty).isDefault = true)
    (hcells : cells + (1 + N) ≤ R.cells) (hslots : slots + (N + N * K) ≤ R.slots) (hdg : decode cc pc = .ok (.multianewarray idx 2, 4))
    (kk : ∀ (H : Heap), gRep D cA B (nm w ko kd N K) H → va_S (gA B) s.heap H locs → W p l e R s m args below meth c H locs (cells + 1 + N) (slots + N + N * K) Q (F0 m (pc + 4) ls (.ref (B + nx w) :: rest))) : W p l e R s m args below meth c H locs cells slots Q (F0 m pc ls (.int k :: .int n :: rest)) := by
  subst hN
  subst hKe
  have hcy : s.vm.findClass (FieldType.array ty).toString = some (cA kd) := by
    have hra := (hK.1.2 kd hkd.1 (by omega)).2
    have hk4 : kd = 50 ∨ kd = 51 ∨ kd = 52 ∨ kd = 53 := by omega
    subst hti
    rcases hk4 with rfl | rfl | rfl | rfl <;> exact hra
  have hco : s.vm.findClass ("[" ++ (FieldType.array ty).toString) = some (cA ko) := by
    have hra := (hK.1.2 ko hko.1 hko.2).2
    rw [hto] at hra
    exact hra
  intro T hT Xs
  obtain ⟨vm₁, cA', comp, -, fA, fC, -, -, X', step⟩ := Jvm.Stand.multianewarray2F Xs hexec hown (hts _ hcl) hov (hts _ hac) (g := F0 m pc ls (.int k :: .int n :: rest)) rfl (by rw [hb]; exact hdg) rfl hn hk hb1 hb2 hb3 hdf hdd hcells hslots
  have ec : cA kd = comp := Option.some.inj (hcy.symm.trans fC)
  have eo : cA ko = cA' := Option.some.inj (hco.symm.trans fA)
  subst ec
  subst eo
  generalize hF : Jvm.Free.Multi.fill (T.setVm vm₁) (cA ko) (cA kd) n.toNatClampNeg k.toNatClampNeg (defaultValue ty) n.toNatClampNeg = F at X' step
  have hTh : (T.setVm vm₁).heap = H := hT
  obtain ⟨f1, f2, -, -⟩ := Jvm.Free.Multi.fill_facts (T.setVm vm₁) (cA ko) (cA kd) n.toNatClampNeg k.toNatClampNeg (defaultValue ty) n.toNatClampNeg
  rw [hF, hTh] at f1 f2
  have hold : ∀ x : Nat, x < H.size → F.heap[x]? = H[x]? := fun x hx => by
    have := Jvm.Free.Multi.fill_old (T.setVm vm₁) (cA ko) (cA kd) n.toNatClampNeg k.toNatClampNeg (defaultValue ty) (a := x) (by rw [hTh]; exact hx) n.toNatClampNeg
    rw [hF, hTh] at this
    exact this
  have hrow : ∀ j : Nat, j < n.toNatClampNeg → F.heap[B + nx w + 1 + j]? = some (arrV (cA kd) k.toNatClampNeg (fun _ => defaultValue (gAT kd))) := fun j hj => by
    have := Jvm.Free.Multi.fill_inner (T.setVm vm₁) (cA ko) (cA kd) n.toNatClampNeg k.toNatClampNeg (defaultValue ty) n.toNatClampNeg j hj
    rw [hF, hTh, hR.1] at this
    rw [this, hti, ← arrV_new]
    rfl
  rw [outer_arr, hR.1] at f2
  obtain ⟨t, a1, b1⟩ := kk F.heap (hR.multi hko ⟨hkd.1, by omega⟩ (fun u j => by rw [hto]; rfl) hf (by rw [f1, hR.1]) hold f2 hrow) (gS_new hS (by rw [f1]; omega) hold) F rfl X'
  refine ⟨t, step t ?_, b1⟩
  have e : T.heap.size = B + nx w := by rw [hT]; exact hR.1
  rw [e]
  exact a1
end ROWS8
