/-! ===== calls by a payer's kind, of a class above, of an inherited static ===== -/
section ROWS5
variable {p : Program} {l : Launch} {e : Env} {R : Room} {s : State} {m : MethodId} {args : Array Value} {below : List Frame} {meth : Method} {c : Code} {H : Heap} {locs : List Loc} {cells slots : Nat} {Q : State → Prop}
variable {cc : ByteArray} {pc : Nat} {ls : Array Slot} {rest : List Value} {D : va_G} {cA : Nat → ClassId} {oc : gO} {B : Nat} {w w1 : gW} {a : Nat} {own : String}
theorem g_rU {x y : MethodName} {bytes b0 : ByteArray} {maxL nL idx n m0 : Nat} {ret r0 : Option FieldType} {rm : Room} {Qc : Array Value → State → Outcome → State → Prop} {b : Nat} {As st0 : List Value} {C owner : String} (hexec : p.tables.exec = Jvm.exec) (hb : c.code = cc) (hml : c.maxLocals = nL) (hown : s.vm.findClass own = some m.cls) (hts : ∀ w ∈ lw_good, w.before args s = true) (hK : gK D cA oc B s s.heap) (hR : gRep D cA B w H) (hS : va_S (gA B) s.heap H locs)
    (hM : Met l y (Cond.code y bytes maxL ret :: lw_good) rm (gPre D cA oc B (.ref b :: As) w) Qc rm.cells rm.slots (gA B)) (hI : gMI y bytes maxL ret n) (hl : Cond.methodLink own idx x ∈ lw_good) (hsame : Cond.sameMethod x.cls owner x.name x.desc ∈ lw_good) (h0i : Cond.instanceMethod ⟨owner, x.name, x.desc⟩ ∈ lw_good) (h0c : Cond.code ⟨owner, x.name, x.desc⟩ b0 m0 r0 ∈ lw_good) (hsel : Cond.selects C x y ∈ lw_good) (how : owner ≠ "java/lang/invoke/MethodHandle" ∧ owner ≠ "java/lang/invoke/VarHandle") (hxn : (parseMethodDescriptor x.desc).map (fun d => d.parameters.length) = some n)
    (hrec : ∃ cellB : Cell, H[b]? = some cellB ∧ cellB.vm.isStatics = false ∧ s.vm.findClass C = some cellB.cls)
    (hn : As.length = n) (hstack : st0 = As.reverse ++ .ref b :: rest) (hcat : (rest.map fun v => v.category).sum ≤ 8) (hsz : ls.size = nL) (hrm : rm.frames + 1 ≤ R.frames ∧ 8 + (maxL + 11) + rm.locals ≤ R.locals) (hcs : cells + rm.cells ≤ R.cells ∧ slots + rm.slots ≤ R.slots) (hdg : decode cc pc = .ok (.invokevirtual idx, 3)) :
    va_Run p l e R s m args below meth c H locs cells slots rm.cells rm.slots (F0 m pc ls st0) rest (Qc (Value.ref b :: As).toArray) (gA B) :=
  va_runU (As := As) (rest := rest) (Ts := lw_good) (owner := owner) (C := C) ⟨hexec, hb, hml, hown, hts⟩ hM ⟨⟨rfl, rfl, hrm.1, hrm.2, gWs hts hI.1, List.mem_cons_self⟩, hts _ hI.1, hts _ hI.2.2.1, how, gLn hxn, hts _ hl, hts _ hsame, va_Decl.of (hts _ h0i) (hts _ h0c), hts _ hsel, hts _ hI.2.1⟩ ⟨gPre.blind, hrec, gPre.at hK hR hS⟩ rfl hn hsz hstack (lv_room hcat) hdg hcs
theorem gAtP (hK : gK D cA oc B s s.heap) {ci : Nat} {r : vw_C} (hc : gcl[ci]? = some r) : ClassAt s r.1 (D.1 ci) := (hK.1.1 ci _ hc).2
theorem g_rSU {y : MethodName} {bytes : ByteArray} {maxL nL idx n ci : Nat} {ret : Option FieldType} {rm : Room} {Qc : Array Value → State → Outcome → State → Prop} {b : Nat} {As st0 : List Value} {r : vw_C} (hexec : p.tables.exec = Jvm.exec) (hb : c.code = cc) (hml : c.maxLocals = nL) (hown : s.vm.findClass own = some m.cls) (hts : ∀ w ∈ lw_good, w.before args s = true) (hK : gK D cA oc B s s.heap) (hR : gRep D cA B w H) (hS : va_S (gA B) s.heap H locs)
    (hM : Met l y (Cond.code y bytes maxL ret :: lw_good) rm (gPre D cA oc B (.ref (B + b) :: As) w) Qc rm.cells rm.slots (gA B)) (hI : gMI y bytes maxL ret n) (hl : Cond.methodLink own idx y ∈ lw_good) (hsame : Cond.sameMethod y.cls y.cls y.name y.desc ∈ lw_good) (hsup : Cond.superclass own y.cls ∈ lw_good) (hno : y.name ≠ "<init>") (hc : gcl[ci]? = some r) (hk : (sh w b).1 = ci)
    (hn : As.length = n) (hstack : st0 = As.reverse ++ .ref (B + b) :: rest) (hcat : (rest.map fun v => v.category).sum ≤ 8) (hsz : ls.size = nL) (hrm : rm.frames + 1 ≤ R.frames ∧ 8 + (maxL + 11) + rm.locals ≤ R.locals) (hcs : cells + rm.cells ≤ R.cells ∧ slots + rm.slots ≤ R.slots) (hdg : decode cc pc = .ok (.invokespecial idx, 3)) :
    va_Run p l e R s m args below meth c H locs cells slots rm.cells rm.slots (F0 m pc ls st0) rest (Qc (Value.ref (B + b) :: As).toArray) (gA B) :=
  va_runSU (As := As) (rest := rest) (Ts := lw_good) (gAtP hK hc) ⟨hexec, hb, hml, hown, hts⟩ hM ⟨⟨rfl, rfl, hrm.1, hrm.2, gWs hts hI.1, List.mem_cons_self⟩, hts _ hl, hts _ hsame, hts _ hsup, hts _ hI.2.1, hts _ hI.2.2.1, hts _ hI.1, hno, gLn hI.2.2.2.2⟩ ⟨gPre.blind, gRecv hK hR hc hk, gPre.at hK hR hS⟩ rfl hn hsz hstack (lv_room hcat) hdg hcs
/-- super.m(..), where the class above inherits m itself -/
theorem g_rSUX0 {x : MethodName} {owner : String} {bytes : ByteArray} {maxL nL idx n ci : Nat} {ret : Option FieldType} {rm : Room} {Qc : Array Value → State → Outcome → State → Prop} {b : Nat} {As st0 : List Value} {r : vw_C} (hexec : p.tables.exec = Jvm.exec) (hb : c.code = cc) (hml : c.maxLocals = nL) (hown : s.vm.findClass own = some m.cls) (hts : ∀ w ∈ lw_good, w.before args s = true) (hK : gK D cA oc B s s.heap) (hR : gRep D cA B w H) (hS : va_S (gA B) s.heap H locs)
    (hM : Met l ⟨owner, x.name, x.desc⟩ (Cond.code ⟨owner, x.name, x.desc⟩ bytes maxL ret :: lw_good) rm (gPre D cA oc B (.ref (B + b) :: As) w) Qc rm.cells rm.slots (gA B)) (hI : gMI ⟨owner, x.name, x.desc⟩ bytes maxL ret n) (hl : Cond.methodLink own idx x ∈ lw_good) (hsame : Cond.sameMethod x.cls owner x.name x.desc ∈ lw_good) (hsup : Cond.superclass own x.cls ∈ lw_good) (hsup2 : Cond.superclass x.cls owner ∈ lw_good) (hno : x.name ≠ "<init>") (hc : gcl[ci]? = some r) (hk : (sh w b).1 = ci)
    (hn : As.length = n) (hstack : st0 = As.reverse ++ .ref (B + b) :: rest) (hcat : (rest.map fun v => v.category).sum ≤ 8) (hsz : ls.size = nL) (hrm : rm.frames + 1 ≤ R.frames ∧ 8 + (maxL + 11) + rm.locals ≤ R.locals) (hcs : cells + rm.cells ≤ R.cells ∧ slots + rm.slots ≤ R.slots) (hdg : decode cc pc = .ok (.invokespecial idx, 3)) :
    va_Run p l e R s m args below meth c H locs cells slots rm.cells rm.slots (F0 m pc ls st0) rest (Qc (Value.ref (B + b) :: As).toArray) (gA B) := by
  obtain ⟨hcode, hinst, hini, hy, hyn⟩ := hI
  have hK0 : Back l R p e below s args ⟨owner, x.name, x.desc⟩ 3 8 (PreOf R rm.cells rm.slots (gPre D cA oc B (.ref (B + b) :: As) w)) (PostOf Qc rm.cells rm.slots (gA B)) := back_of (bytes := bytes) (maxL := maxL) (ret := ret) hM gPre.blind rfl rfl hrm.1 hrm.2 (gWs hts hcode) List.mem_cons_self (fun a' U hW => word_at hW (lw_good_ok _ hini) (hts _ hini))
  obtain ⟨mk, methM, hnamed, hmethM, hstM, habM⟩ := Cond.instanceMethod_spec (hts _ hinst)
  obtain ⟨methM', cM, hmethM', -, -, -, -, -, -, hsigM⟩ := Cond.code_spec hnamed (hts _ hcode)
  cases hmethM.symm.trans hmethM'
  obtain ⟨ps, dk, kp, hps, hdk, hkp, hsuper, -, -, hnid⟩ := Cond.superclass_spec hown (hts _ hsup)
  obtain ⟨ps2, dk2, kp2, hps2, hdk2, hkp2, hsuper2, -, -, -⟩ := Cond.superclass_spec hps (hts _ hsup2)
  have hpm : ps2 = mk.cls := Option.some.inj (hps2.symm.trans (findClass_of_methodNamed hnamed))
  have hsub : s.vm.isSubclass ps mk.cls = true := by
    have hlt := (Array.getElem?_eq_some_iff.mp hdk2).1
    unfold Vm.isSubclass
    obtain ⟨n0, hn0⟩ : ∃ n0, s.vm.classes.size = n0 + 1 := ⟨s.vm.classes.size - 1, by omega⟩
    rw [hn0]
    simp [Vm.isSubclassAux, hdk2, hsuper2, hpm]
  obtain ⟨cellB, hcB, hoB, hclB⟩ := gRecv hK hR hc hk
  obtain ⟨hfc, kB, hkB, -⟩ := gAtP hK hc
  have hkB : s.vm.classes[cellB.cls]? = some kB := by
    have e : D.1 ci = cellB.cls := Option.some.inj (hfc.symm.trans hclB)
    rw [← e]
    exact hkB
  intro T hT X
  obtain ⟨vm₁, X₁, hstep₁⟩ := X.invokespecialUp hexec hown (hts _ hl) (hts _ hsame) hnamed hmethM hstM habM hno hdk hnid hps hsuper hsub (a := B + b) (cell := cellB) (by rw [hT]; exact hcB)
    (fun z h => by rw [h] at hoB; cases hoB) hkB (g := F0 m pc ls st0) rfl (argsL := As) (rest := rest) (by rw [hn]; exact gLn hyn _ hsigM) hstack (by rw [hb]; exact hdg)
  obtain ⟨v, ⟨U', l2, c2, s2⟩, X', ⟨g', mk', t, L, e1, e2, hq, h1, hL, h2, h3⟩, hsteps⟩ := hK0 m meth c ⟨T.setVm vm₁, locs, cells, slots⟩ { F0 m pc ls st0 with stack := rest } (.invokespecial idx) mk (Value.ref (B + b) :: As).toArray X₁ rfl (hsz.trans hml.symm) (by rw [hb]; exact hdg) (lv_room hcat) (X₁.named hnamed) ⟨hcs.1, hcs.2, gPre.at hK hR hS (T.setVm vm₁) hT X₁.warmed⟩
  dsimp only [Pt.U, Pt.locs, Pt.cells, Pt.slots] at X' e1 e2 h1 h2 h3 hsteps
  subst h1; subst h2; subst h3
  exact ⟨v, (T.setVm vm₁).calling g' mk' (Value.ref (B + b) :: As).toArray, t, U', L, hT, X', hL, e1, e2, hq, fun tg h => hstep₁ _ (by rw [doInvoke_state]; exact hsteps.trans h)⟩
theorem g_rSX0 {x : MethodName} {owner : String} {bytes : ByteArray} {maxL nL idx n : Nat} {ret : Option FieldType} {rm : Room} {Qc : Array Value → State → Outcome → State → Prop} {As st0 : List Value} (hexec : p.tables.exec = Jvm.exec) (hb : c.code = cc) (hml : c.maxLocals = nL) (hown : s.vm.findClass own = some m.cls) (hts : ∀ w ∈ lw_good, w.before args s = true) (hK : gK D cA oc B s s.heap) (hR : gRep D cA B w H) (hS : va_S (gA B) s.heap H locs)
    (hM : Met l ⟨owner, x.name, x.desc⟩ (Cond.code ⟨owner, x.name, x.desc⟩ bytes maxL ret :: lw_good) rm (gPre D cA oc B As w) Qc rm.cells rm.slots (gA B)) (hI : gMS ⟨owner, x.name, x.desc⟩ bytes maxL ret n) (hl : Cond.methodLink own idx x ∈ lw_good) (hsame : Cond.sameMethod x.cls owner x.name x.desc ∈ lw_good)
    (hn : As.length = n) (hstack : st0 = As.reverse ++ rest) (hcat : (rest.map fun v => v.category).sum ≤ 8) (hsz : ls.size = nL) (hrm : rm.frames + 1 ≤ R.frames ∧ 8 + (maxL + 11) + rm.locals ≤ R.locals) (hcs : cells + rm.cells ≤ R.cells ∧ slots + rm.slots ≤ R.slots) (hdg : decode cc pc = .ok (.invokestatic idx, 3)) :
    va_Run p l e R s m args below meth c H locs cells slots rm.cells rm.slots (F0 m pc ls st0) rest (Qc As.toArray) (gA B) := by
  obtain ⟨hcode, hstt, hini, hy, hyn⟩ := hI
  have hK0 : Back l R p e below s args ⟨owner, x.name, x.desc⟩ 3 8 (PreOf R rm.cells rm.slots (gPre D cA oc B As w)) (PostOf Qc rm.cells rm.slots (gA B)) := back_of (bytes := bytes) (maxL := maxL) (ret := ret) hM gPre.blind rfl rfl hrm.1 hrm.2 (gWs hts hcode) List.mem_cons_self (fun a' U hW => word_at hW (lw_good_ok _ hini) (hts _ hini))
  obtain ⟨mk, hnamed⟩ := Cond.code_named (hts _ hcode)
  obtain ⟨methM, cM, hmethM, -, -, -, -, -, -, hsigM⟩ := Cond.code_spec hnamed (hts _ hcode)
  intro T hT X
  obtain ⟨v, vm₁, ⟨U', l2, c2, s2⟩, hW₁, X', ⟨g', mk', t, L, e1, e2, hq, h1, hL, h2, h3⟩, st⟩ := Jvm.Stand.staticBackUp X hexec hown (hts _ hl) (hts _ hsame) (hts _ hstt) (hts _ hini) hnamed hmethM hsigM hy hK0 (g := F0 m pc ls st0) rfl (hsz.trans hml.symm) (Steps.refl _) (argsL := As) (rest := rest) (fun sig h => hn.trans (gLn hyn sig h)) hstack (lv_room hcat) (by rw [hb]; exact hdg)
    (fun vm₁ hW₁ => ⟨hcs.1, hcs.2, gPre.at hK hR hS (T.setVm vm₁) hT hW₁⟩)
  dsimp only [Pt.U, Pt.locs, Pt.cells, Pt.slots] at X' e1 e2 h1 h2 h3 st
  subst h1; subst h2; subst h3
  exact ⟨v, (T.setVm vm₁).calling g' mk' As.toArray, t, U', L, hT, X', hL, e1, e2, hq, fun tg h => st.trans h⟩
end ROWS5
