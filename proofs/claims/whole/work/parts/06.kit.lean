/-! ===== small rows beside the pure functions ===== -/
theorem nb01 {x : Int32} (h : x = 0 ∨ x = 1) : narrow .boolean (.int x) = .int x := by
  rcases h with rfl | rfl <;> rfl
section ROWS4
variable {p : Program} {l : Launch} {e : Env} {R : Room} {s : State} {m : MethodId} {args : Array Value} {below : List Frame} {meth : Method} {c : Code} {H : Heap} {locs : List Loc} {cells slots : Nat} {Q : State → Prop}
variable {cc : ByteArray} {pc : Nat} {ls : Array Slot} {rest : List Value} {D : va_G} {cA : Nat → ClassId} {oc : gO} {B : Nat} {w w1 : gW} {a : Nat} {own : String}
theorem g_nW {β : Type} {v : gW} {f : gW → Option β} {r : β} {g : JFrame} (hf : bd v f = some r) (hR : gRep D cA B v H) (k : ∀ w, f w = some r → gRep D cA B w H → W p l e R s m args below meth c H locs cells slots Q g) : W p l e R s m args below meth c H locs cells slots Q g := k v hf hR
theorem g_iinc {β : Type} {f : Int32 → Option β} {r : β} {i nL k : Nat} {n : Int} {x n' : Int32} {lv : List (Nat × Value)} {lv' : Int32 → List (Nat × Value)} (hf : bd (x + n') f = some r) (hexec : p.tables.exec = Jvm.exec) (hb : c.code = cc) (hdg : decode cc pc = .ok (.iinc i n, 3)) (h : lv_has ls nL lv) (hk : lv[k]? = some (i, .int x)) (hv : Int32.ofInt n = n') (hn : i < nL) (hl : ∀ y, (i, Value.int y) :: lv.filter (fun q => !(q.1 == i) && !(q.1 + 1 == i && q.2.category == 2)) = lv' y)
    (kk : ∀ (y : Int32) (ls' : Array Slot), f y = some r → lv_has ls' nL (lv' y) → W p l e R s m args below meth c H locs cells slots Q (F0 m (pc + 3) ls' rest)) : W p l e R s m args below meth c H locs cells slots Q (F0 m pc ls rest) :=
  lv_iinc hexec hb hdg h hk (by rw [hv]) hn (hl _) (fun ls' hl' => kk _ ls' hf hl')
/-- calls of methods that make nothing -/
theorem g_ki0 {st0 : List Value} {v : Int32} {av : Array Value} (hr : va_Run p l e R s m args below meth c H locs cells slots 0 0 (F0 m pc ls st0) rest (gQi D cA B v w1 av) (gA B)) (hS : va_S (gA B) s.heap H locs)
    (kk : ∀ (H : Heap) (locs : List Loc), gRep D cA B w1 H → va_S (gA B) s.heap H locs → W p l e R s m args below meth c H locs cells slots Q (F0 m (pc + 3) ls (.int v :: rest))) : W p l e R s m args below meth c H locs cells slots Q (F0 m pc ls st0) := g_ki hr hS kk
theorem g_kl0 {st0 : List Value} {v : Int64} {av : Array Value} (hr : va_Run p l e R s m args below meth c H locs cells slots 0 0 (F0 m pc ls st0) rest (gQl D cA B v w1 av) (gA B)) (hS : va_S (gA B) s.heap H locs)
    (kk : ∀ (H : Heap) (locs : List Loc), gRep D cA B w1 H → va_S (gA B) s.heap H locs → W p l e R s m args below meth c H locs cells slots Q (F0 m (pc + 3) ls (.long v :: rest))) : W p l e R s m args below meth c H locs cells slots Q (F0 m pc ls st0) := g_kl hr hS kk
theorem g_kv0 {st0 : List Value} {v : Unit} {av : Array Value} (hr : va_Run p l e R s m args below meth c H locs cells slots 0 0 (F0 m pc ls st0) rest (gQv D cA B v w1 av) (gA B)) (hS : va_S (gA B) s.heap H locs)
    (kk : ∀ (H : Heap) (locs : List Loc), gRep D cA B w1 H → va_S (gA B) s.heap H locs → W p l e R s m args below meth c H locs cells slots Q (F0 m (pc + 3) ls rest)) : W p l e R s m args below meth c H locs cells slots Q (F0 m pc ls st0) := g_kv hr hS kk
theorem g_kr0 {st0 : List Value} {v : Option Nat} {av : Array Value} (hr : va_Run p l e R s m args below meth c H locs cells slots 0 0 (F0 m pc ls st0) rest (gQr D cA B v w1 av) (gA B)) (hS : va_S (gA B) s.heap H locs)
    (kk : ∀ (H : Heap) (locs : List Loc), gRep D cA B w1 H → va_S (gA B) s.heap H locs → W p l e R s m args below meth c H locs cells slots Q (F0 m (pc + 3) ls (va_rf (v.map (B + ·)) :: rest))) : W p l e R s m args below meth c H locs cells slots Q (F0 m pc ls st0) := g_kr hr hS kk
/-! System.arraycopy over ints, over longs -/
theorem g_copy0 {kd idx b : Nat} {w' : gW} {sp dp n : Int32} (hexec : p.tables.exec = Jvm.exec) (hb : c.code = cc) (hml : c.maxLocals = ls.size) (hts : ∀ w ∈ lw_good, w.before args s = true) (hown : s.vm.findClass own = some m.cls) (hK : gK D cA oc B s s.heap) (hR : gRep D cA B w H) (hS : va_S (gA B) s.heap H locs) (hl : Cond.methodLink own idx arraycopyName ∈ lw_good) (hnat : Cond.native arraycopyName ∈ lw_good) (hst : Cond.static arraycopyName ∈ lw_good) (hini : Cond.initialized "java/lang/System" ∈ lw_good)
    (hkd : 50 ≤ kd ∧ kd < 58) (hprim : refKind (gAT kd) = false) (hfit : ∀ i, fits (gAT kd) (gVal B (gAT kd) w a i) = true) (hka : (sh w a).1 = kd) (hkb : (sh w b).1 = kd) (h1 : ¬ sp < 0) (h2 : ¬ dp < 0) (h3 : ¬ n < 0) (h4 : sp.toNatClampNeg + n.toNatClampNeg ≤ (sh w a).2) (h5 : dp.toNatClampNeg + n.toNatClampNeg ≤ (sh w b).2) (hfr : 1 ≤ R.frames) (hlo : (rest.map fun v => v.category).sum + (nativeFrameWords "java/lang/System" "arraycopy" 5 + 11) ≤ R.locals) (hdg : decode cc pc = .ok (.invokestatic idx, 3))
    (e0 : nx w' = nx w) (e1 : ∀ b, sh w' b = sh w b) (e2 : ∀ q, q ≠ b → ∀ k, gI w' q k = gI w q k ∧ gL w' q k = gL w q k ∧ gR w' q k = gR w q k) (e3 : ∀ j, gVal B (gAT kd) w' b j = va_cpy (fun j => gVal B (gAT kd) w a j) (fun j => gVal B (gAT kd) w b j) sp.toNatClampNeg dp.toNatClampNeg n.toNatClampNeg j)
    (kk : ∀ (H : Heap) (locs : List Loc), gRep D cA B w' H → va_S (gA B) s.heap H locs → W p l e R s m args below meth c H locs cells slots Q (F0 m (pc + 3) ls rest)) : W p l e R s m args below meth c H locs cells slots Q (F0 m pc ls (.int n :: .int dp :: .ref (B + b) :: .int sp :: .ref (B + a) :: rest)) := by
  have nn : ∀ z : Int32, ¬ z < 0 → z.toInt = (z.toNatClampNeg : Int) := by
    intro z hz
    have hz0 : (0 : Int) ≤ z.toInt := by
      have := Int32.not_lt.mp hz
      simpa using Int32.le_iff_toInt_le.mp this
    show z.toInt = ((z.toInt.toNat : Nat) : Int)
    omega
  intro T hT X
  have hc0 := hR.ar hka ⟨hkd.1, by omega⟩
  have hc1 := hR.ar hkb ⟨hkd.1, by omega⟩
  have hA := (hK.1.2 kd hkd.1 hkd.2).1
  obtain ⟨-, k0, hk0, cm0, hkk0⟩ := hA (sh w a).2 (fun j => gVal B (gAT kd) w a j)
  obtain ⟨vm', X', step⟩ := X.arraycopy hexec hown (hts _ hl) (hts _ hnat) (hts _ hst) (hts _ hini) (src := B + a) (dst := B + b) (cs := arrV (cA kd) (sh w a).2 (fun j => gVal B (gAT kd) w a j)) (cd := arrV (cA kd) (sh w b).2 (fun j => gVal B (gAT kd) w b j)) (srcPos := sp) (destPos := dp) (n := n) (by rw [hT]; exact hc0) (by rw [hT]; exact hc1)
    (fun _ h => by cases h) (fun _ h => by cases h) (fun h => by cases h) (fun h => by cases h) hk0 hk0 hkk0 hkk0 (by simp [hprim]) h1 h2 h3
    (by rw [nn sp h1, nn n h3]; rw [arrV_size]; omega)
    (by rw [nn dp h2, nn n h3]; rw [arrV_size]; omega)
    (fun vm₁ _ i hi => by
      have e : (arrV (cA kd) (sh w a).2 (fun j => gVal B (gAT kd) w a j)).slots.getD (sp.toNatClampNeg + i) .null = gVal B (gAT kd) w a (sp.toNatClampNeg + i) := by
        rw [Array.getD_eq_getD_getElem?, arrV_read _ _ (by omega)]
        rfl
      refine ⟨?_, ?_⟩
      · rw [e]
        exact hfit _
      · rw [e]
        have := hfit (sp.toNatClampNeg + i)
        revert this hprim
        generalize gAT kd = ty
        intro hprim hf
        cases ty <;> first | exact trivial | (simp [refKind] at hprim))
    (g := F0 m pc ls (.int n :: .int dp :: .ref (B + b) :: .int sp :: .ref (B + a) :: rest)) rfl (by rw [hml]) (rest := rest) rfl (by rw [hb]; exact hdg) hfr (by show 2 * 0 + _ + _ ≤ _; omega)
  have eC : copied (arrV (cA kd) (sh w a).2 (fun j => gVal B (gAT kd) w a j)) (arrV (cA kd) (sh w b).2 (fun j => gVal B (gAT kd) w b j)) sp dp n = arrV (cA kd) (sh w b).2 (fun j => gVal B (gAT kd) w' b j) := by
    have h := va_copied (fun z : Value => z) (cA kd) (cA kd) (n1 := (sh w b).2) (dp := dp.toNatClampNeg) (fun j => gVal B (gAT kd) w a j) (fun j => gVal B (gAT kd) w b j) h4
    refine Eq.trans h ?_
    congr 1
    funext j
    exact (e3 j).symm
  rw [eC] at X' step
  have hlt : B + b < H.size := (Array.getElem?_eq_some_iff.mp hc1).1
  generalize arrV (cA kd) (sh w b).2 (fun j => gVal B (gAT kd) w' b j) = cell at X' step eC
  have hheap : ((T.setVm vm').setCell (B + b) cell).heap = H.setIfInBounds (B + b) cell := by rw [← hT]; rfl
  have oq : ∀ q : Nat, q ≠ B + b → (H.setIfInBounds (B + b) cell)[q]? = H[q]? := fun q hq => by simp [Array.getElem?_setIfInBounds, Ne.symm hq]
  have hself : (H.setIfInBounds (B + b) cell)[B + b]? = some cell := by simp [Array.getElem?_setIfInBounds, hlt]
  have hR1 : gRep D cA B w' (H.setIfInBounds (B + b) cell) := by
    refine hR.upd e0 e1 (by simp) oq ?_ e2
    unfold gCell
    rw [e1, hkb, if_neg (by omega), hself, ← eC]
    have h := va_copied (fun z : Value => z) (cA kd) (cA kd) (n1 := (sh w b).2) (dp := dp.toNatClampNeg) (fun j => gVal B (gAT kd) w a j) (fun j => gVal B (gAT kd) w b j) h4
    refine congrArg some (Eq.trans h ?_)
    congr 1
    funext j
    exact (e3 j).symm
  obtain ⟨t, a1, b1⟩ := kk _ _ hR1 ⟨by simp; exact hS.1, fun q g1 g2 => by
      rw [oq q (fun e => g2 (by rw [e]; exact Nat.le_add_right _ _))]
      exact hS.2.1 q g1 g2, fun q hq => by
      rcases List.mem_append.mp hq with h | h
      · exact hS.2.2 q h
      · obtain ⟨z, -, hz⟩ := List.mem_map.mp h
        rw [← hz]
        exact Nat.le_add_right _ _⟩ _ hheap X'
  exact ⟨t, step t a1, b1⟩
theorem g_copyI {idx b : Nat} {sp dp n : Int32} (hexec : p.tables.exec = Jvm.exec) (hb : c.code = cc) (hml : c.maxLocals = ls.size) (hts : ∀ w ∈ lw_good, w.before args s = true) (hown : s.vm.findClass own = some m.cls) (hK : gK D cA oc B s s.heap) (hR : gRep D cA B w H) (hS : va_S (gA B) s.heap H locs) (hl : Cond.methodLink own idx arraycopyName ∈ lw_good) (hnat : Cond.native arraycopyName ∈ lw_good) (hst : Cond.static arraycopyName ∈ lw_good) (hini : Cond.initialized "java/lang/System" ∈ lw_good)
    (hka : (sh w a).1 = 50) (hkb : (sh w b).1 = 50) (h1 : ¬ sp < 0) (h2 : ¬ dp < 0) (h3 : ¬ n < 0) (h4 : sp.toNatClampNeg + n.toNatClampNeg ≤ (sh w a).2) (h5 : dp.toNatClampNeg + n.toNatClampNeg ≤ (sh w b).2) (hfr : 1 ≤ R.frames) (hlo : (rest.map fun v => v.category).sum + (nativeFrameWords "java/lang/System" "arraycopy" 5 + 11) ≤ R.locals) (hdg : decode cc pc = .ok (.invokestatic idx, 3))
    (kk : ∀ (H : Heap) (locs : List Loc), gRep D cA B (cI w a sp.toNatClampNeg b dp.toNatClampNeg n.toNatClampNeg) H → va_S (gA B) s.heap H locs → W p l e R s m args below meth c H locs cells slots Q (F0 m (pc + 3) ls rest)) : W p l e R s m args below meth c H locs cells slots Q (F0 m pc ls (.int n :: .int dp :: .ref (B + b) :: .int sp :: .ref (B + a) :: rest)) :=
  g_copy0 (kd := 50) (w' := cI w a sp.toNatClampNeg b dp.toNatClampNeg n.toNatClampNeg) hexec hb hml hts hown hK hR hS hl hnat hst hini (by decide) rfl (fun _ => rfl) hka hkb h1 h2 h3 h4 h5 hfr hlo hdg rfl (fun _ => rfl) (fun q hq k => ⟨by simp [gI, cI, hq], rfl, rfl⟩) (fun j => by
    show Value.int _ = _
    by_cases h : dp.toNatClampNeg ≤ j ∧ j < dp.toNatClampNeg + n.toNatClampNeg
    · simp [va_cpy, h, gI, cI, gVal, gAT]
    · simp [va_cpy, h, gI, cI, gVal, gAT]) kk
theorem g_copyL {idx b : Nat} {sp dp n : Int32} (hexec : p.tables.exec = Jvm.exec) (hb : c.code = cc) (hml : c.maxLocals = ls.size) (hts : ∀ w ∈ lw_good, w.before args s = true) (hown : s.vm.findClass own = some m.cls) (hK : gK D cA oc B s s.heap) (hR : gRep D cA B w H) (hS : va_S (gA B) s.heap H locs) (hl : Cond.methodLink own idx arraycopyName ∈ lw_good) (hnat : Cond.native arraycopyName ∈ lw_good) (hst : Cond.static arraycopyName ∈ lw_good) (hini : Cond.initialized "java/lang/System" ∈ lw_good)
    (hka : (sh w a).1 = 52) (hkb : (sh w b).1 = 52) (h1 : ¬ sp < 0) (h2 : ¬ dp < 0) (h3 : ¬ n < 0) (h4 : sp.toNatClampNeg + n.toNatClampNeg ≤ (sh w a).2) (h5 : dp.toNatClampNeg + n.toNatClampNeg ≤ (sh w b).2) (hfr : 1 ≤ R.frames) (hlo : (rest.map fun v => v.category).sum + (nativeFrameWords "java/lang/System" "arraycopy" 5 + 11) ≤ R.locals) (hdg : decode cc pc = .ok (.invokestatic idx, 3))
    (kk : ∀ (H : Heap) (locs : List Loc), gRep D cA B (cL w a sp.toNatClampNeg b dp.toNatClampNeg n.toNatClampNeg) H → va_S (gA B) s.heap H locs → W p l e R s m args below meth c H locs cells slots Q (F0 m (pc + 3) ls rest)) : W p l e R s m args below meth c H locs cells slots Q (F0 m pc ls (.int n :: .int dp :: .ref (B + b) :: .int sp :: .ref (B + a) :: rest)) :=
  g_copy0 (kd := 52) (w' := cL w a sp.toNatClampNeg b dp.toNatClampNeg n.toNatClampNeg) hexec hb hml hts hown hK hR hS hl hnat hst hini (by decide) rfl (fun _ => rfl) hka hkb h1 h2 h3 h4 h5 hfr hlo hdg rfl (fun _ => rfl) (fun q hq k => ⟨rfl, by simp [gL, cL, hq], rfl⟩) (fun j => by
    show Value.long _ = _
    by_cases h : dp.toNatClampNeg ≤ j ∧ j < dp.toNatClampNeg + n.toNatClampNeg
    · simp [va_cpy, h, gL, cL, gVal, gAT]
    · simp [va_cpy, h, gL, cL, gVal, gAT]) kk
end ROWS4
