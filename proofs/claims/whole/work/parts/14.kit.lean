/-! ===== new objects and arrays ===== -/
section ROWS7
variable {p : Program} {l : Launch} {e : Env} {R : Room} {s : State} {m : MethodId} {args : Array Value} {below : List Frame} {meth : Method} {c : Code} {H : Heap} {locs : List Loc} {cells slots : Nat} {Q : State → Prop}
variable {cc : ByteArray} {pc : Nat} {ls : Array Slot} {rest : List Value} {D : va_G} {cA : Nat → ClassId} {oc : gO} {B : Nat} {w w1 : gW} {a : Nat} {own : String}
theorem gVal_new {ty : FieldType} {kd len k : Nat} (h1 : ty ≠ .float) (h2 : ty ≠ .double) : gVal B ty (nw w kd len) (nx w) k = defaultValue ty := by
  have e1 : gI (nw w kd len) (nx w) k = 0 := by simp [gI, nw, nx]
  have e2 : gL (nw w kd len) (nx w) k = 0 := by simp [gL, nw, nx]
  have e3 : gR (nw w kd len) (nx w) k = none := by simp [gR, nw, nx]
  cases ty <;> first | exact absurd rfl h1 | exact absurd rfl h2 | (simp only [gVal, e1]; rfl) | (simp only [gVal, e2]; rfl) | (simp only [gVal, e3]; rfl)
theorem gS_new {H1 : Heap} (hS : va_S (gA B) s.heap H locs) (z : H.size ≤ H1.size) (oq : ∀ q : Nat, q < H.size → H1[q]? = H[q]?) : va_S (gA B) s.heap H1 locs := ⟨Nat.le_trans hS.1 z, fun x h1 h2 => (oq x (Nat.lt_of_lt_of_le h1 hS.1)).trans (hS.2.1 x h1 h2), hS.2.2⟩
theorem g_new {idx ci N : Nat} {C : String} {T : u_T} (hexec : p.tables.exec = Jvm.exec) (hb : c.code = cc) (hts : ∀ w ∈ lw_good, w.before args s = true) (hown : s.vm.findClass own = some m.cls) (hK : gK D cA oc B s s.heap) (hR : gRep D cA B w H) (hS : va_S (gA B) s.heap H locs) (hc : gcl[ci]? = some (C, T, N)) (hin : ∀ w ∈ u_ws C T N, w ∈ lw_good) (hty : ∀ k, k < N → parseFieldDescriptor (T k).2.2.1 = some (gT ci k)) (hnf : ∀ k, k < N → gT ci k ≠ .float ∧ gT ci k ≠ .double)
    (hcl : Cond.classLink own idx C ∈ lw_good) (hins : Cond.instantiable C N ∈ lw_good) (hini : Cond.initialized C ∈ lw_good) (hcells : cells + 1 ≤ R.cells) (hslots : slots + N ≤ R.slots) (hdg : decode cc pc = .ok (.new idx, 3))
    (kk : ∀ (H : Heap), gRep D cA B (nw w ci 0) H → va_S (gA B) s.heap H locs → W p l e R s m args below meth c H locs (cells + 1) (slots + N) Q (F0 m (pc + 3) ls (.ref (B + nx w) :: rest))) : W p l e R s m args below meth c H locs cells slots Q (F0 m pc ls rest) := by
  have hKn := hK.1.1 ci _ hc
  refine W.newcK hexec hb hown (hts _ hcl) (hts _ hins) (hts _ hini) rfl hdg hcells hslots hKn.2.1 (h := B + nx w) hR.1 fun H1 kC hkC e1 z1 o1 => ?_
  have oq : ∀ q : Nat, q < H.size → H1[q]? = H[q]? := fun q hq => o1 q (by rw [← hR.1]; exact hq)
  refine kk H1 (hR.new (len := 0) (by have := gl_lt hc; omega) (by rw [z1, hR.1]) oq ?_) (gS_new hS (by rw [z1, hR.1]; omega) oq)
  unfold gCell
  have hs : sh (nw w ci 0) (nx w) = (ci, 0) := by simp [sh, nw, nx]
  rw [hs, if_pos (gl_lt hc)]
  exact ⟨_, hc, (u_born (gT ci) hts hin hKn hkC e1 hty).to (fun j hj => (gVal_new (hnf j hj).1 (hnf j hj).2).symm)⟩
theorem gArr_new {kd n : Nat} {H1 : Heap} (hR : gRep D cA B w H) (hkd : 50 ≤ kd ∧ kd < 58) (hf : gAT kd ≠ .float ∧ gAT kd ≠ .double) (e1 : H1[B + nx w]? = some (arrV (cA kd) n (fun _ => defaultValue (gAT kd)))) (z : H1.size = H.size + 1) (oq : ∀ q : Nat, q < H.size → H1[q]? = H[q]?) : gRep D cA B (nw w kd n) H1 := by
  refine hR.new (by omega) z oq ?_
  unfold gCell
  have hs : sh (nw w kd n) (nx w) = (kd, n) := by simp [sh, nw, nx]
  rw [hs, if_neg (by omega), e1]
  congr 2
  funext j
  exact (gVal_new hf.1 hf.2).symm
theorem g_newa {kd N : Nat} {n : Int32} {at' : ArrayType} (hexec : p.tables.exec = Jvm.exec) (hb : c.code = cc) (hts : ∀ w ∈ lw_good, w.before args s = true) (hK : gK D cA oc B s s.heap) (hR : gRep D cA B w H) (hS : va_S (gA B) s.heap H locs) (hkd : 50 ≤ kd ∧ kd < 54) (hat : newarray.typeOf at' = gAT kd) (hac : Cond.arrayClass (gAT kd) ∈ lw_good) (hn : ¬ n < 0) (hN : n.toNatClampNeg = N) (hby : N * componentBytes (gAT kd) ≤ 536870912) (hcells : cells + 1 ≤ R.cells) (hslots : slots + N ≤ R.slots) (hdg : decode cc pc = .ok (.newarray at', 2))
    (kk : ∀ (H : Heap), gRep D cA B (nw w kd N) H → va_S (gA B) s.heap H locs → W p l e R s m args below meth c H locs (cells + 1) (slots + N) Q (F0 m (pc + 2) ls (.ref (B + nx w) :: rest))) : W p l e R s m args below meth c H locs cells slots Q (F0 m pc ls (.int n :: rest)) := by
  refine va_newaK hexec hb (by rw [hat]; exact hts _ hac) rfl hdg rfl hn hN (by rw [hat]; exact hby) hcells hslots (h := B + nx w) hR.1 fun H1 cA' e1 z1 o1 hAr hNm => ?_
  have oq : ∀ q : Nat, q < H.size → H1[q]? = H[q]? := fun q hq => o1 q (by rw [← hR.1]; exact hq)
  have hcA : cA' = cA kd := by
    have hra := (hK.1.2 kd hkd.1 (by omega)).2
    rw [hat] at hNm
    have hk4 : kd = 50 ∨ kd = 51 ∨ kd = 52 ∨ kd = 53 := by omega
    have : s.vm.findClass ("[" ++ (gAT kd).toString) = some (cA kd) := by
      rcases hk4 with rfl | rfl | rfl | rfl <;> exact hra
    exact Option.some.inj (hNm.symm.trans this)
  subst hcA
  rw [hat] at e1
  have hk4 : kd = 50 ∨ kd = 51 ∨ kd = 52 ∨ kd = 53 := by omega
  exact kk H1 (gArr_new hR ⟨hkd.1, by omega⟩ (by rcases hk4 with rfl | rfl | rfl | rfl <;> exact ⟨fun h => (by cases h), fun h => (by cases h)⟩) e1 (by rw [z1, hR.1]) oq) (gS_new hS (by rw [z1, hR.1]; omega) oq)
theorem g_anew {kd N idx : Nat} {n : Int32} {E : String} (hexec : p.tables.exec = Jvm.exec) (hb : c.code = cc) (hts : ∀ w ∈ lw_good, w.before args s = true) (hown : s.vm.findClass own = some m.cls) (hK : gK D cA oc B s s.heap) (hR : gRep D cA B w H) (hS : va_S (gA B) s.heap H locs) (hkd : 50 ≤ kd ∧ kd < 58) (hE : gAT kd = .object E) (hcl : Cond.classLink own idx E ∈ lw_good) (hov : va_AO E s) (hn : ¬ n < 0) (hN : n.toNatClampNeg = N) (hby : N * 4 ≤ 536870912) (hcells : cells + 1 ≤ R.cells) (hslots : slots + N ≤ R.slots) (hdg : decode cc pc = .ok (.anewarray idx, 3))
    (kk : ∀ (H : Heap), gRep D cA B (nw w kd N) H → va_S (gA B) s.heap H locs → W p l e R s m args below meth c H locs (cells + 1) (slots + N) Q (F0 m (pc + 3) ls (.ref (B + nx w) :: rest))) : W p l e R s m args below meth c H locs cells slots Q (F0 m pc ls (.int n :: rest)) := by
  subst hN
  refine W.anew hexec hb hown (hts _ hcl) hov.use rfl hdg rfl hn hby hcells hslots fun cA' kA comp h1 h2 h3 h4 => ?_
  have hra := (hK.1.2 kd hkd.1 hkd.2).2
  rw [hE] at hra
  obtain ⟨kA', comp', k1, k2, k3, k4⟩ := hra
  have hcA : cA' = cA kd := Option.some.inj (h1.symm.trans k4)
  subst hcA
  have oq : ∀ q : Nat, q < H.size → (H.push { cls := cA kd, slots := Array.replicate n.toNatClampNeg .null, vm := .none })[q]? = H[q]? := fun q hq => by rw [Array.getElem?_push, if_neg (Nat.ne_of_lt hq)]
  rw [hR.1]
  refine kk _ (gArr_new hR hkd (by rw [hE]; exact ⟨fun h => (by cases h), fun h => (by cases h)⟩) ?_ (by simp) oq) (gS_new hS (by simp) oq)
  rw [hE, ← hR.1]
  show _ = some (arrV (cA kd) n.toNatClampNeg (fun _ => Value.null))
  rw [← arrV_new]
  simp
end ROWS7
