/-! ===== statics, text constants, arraycopy, returns, calls ===== -/
def gMI (y : MethodName) (bytes : ByteArray) (maxL : Nat) (ret : Option FieldType) (n : Nat) : Prop := Cond.code y bytes maxL ret ∈ lw_good ∧ Cond.instanceMethod y ∈ lw_good ∧ Cond.initialized y.cls ∈ lw_good ∧ (y.cls ≠ "java/lang/invoke/MethodHandle" ∧ y.cls ≠ "java/lang/invoke/VarHandle") ∧ (parseMethodDescriptor y.desc).map (fun d => d.parameters.length) = some n
def gMS (y : MethodName) (bytes : ByteArray) (maxL : Nat) (ret : Option FieldType) (n : Nat) : Prop := Cond.code y bytes maxL ret ∈ lw_good ∧ Cond.static y ∈ lw_good ∧ Cond.initialized y.cls ∈ lw_good ∧ (y.cls ≠ "java/lang/invoke/MethodHandle" ∧ y.cls ≠ "java/lang/invoke/VarHandle") ∧ (parseMethodDescriptor y.desc).map (fun d => d.parameters.length) = some n
section ROWS3
variable {p : Program} {l : Launch} {e : Env} {R : Room} {s : State} {m : MethodId} {args : Array Value} {below : List Frame} {meth : Method} {c : Code} {H : Heap} {locs : List Loc} {cells slots : Nat} {Q : State → Prop}
variable {cc : ByteArray} {pc : Nat} {ls : Array Slot} {rest : List Value} {D : va_G} {cA : Nat → ClassId} {oc : gO} {B : Nat} {w w1 : gW} {a : Nat} {own : String}
/-- the table of what coins are worth, from a nest mate -/
theorem g_worthN {idx : Nat} (hexec : p.tables.exec = Jvm.exec) (hb : c.code = cc) (hown : s.vm.findClass own = some m.cls) (hK : gK D cA oc B s s.heap) (hS : va_S (gA B) s.heap H locs) (hl : va_Nw (.fieldLinkNest own idx "RidCoppers" "WORTH" "[I" "RidCoppers") s) (hdg : decode cc pc = .ok (.getstatic idx, 3))
    (kk : W p l e R s m args below meth c H locs cells slots Q (F0 m (pc + 3) ls (.ref oc.1 :: rest))) : W p l e R s m args below meth c H locs cells slots Q (F0 m pc ls rest) :=
  va_getsN hexec hb hK.2.1.1 hS hown (va_Nw.use rfl hl) (fun _ h => h) hdg kk
theorem g_wld {i : Int32} (hexec : p.tables.exec = Jvm.exec) (hb : c.code = cc) (hK : gK D cA oc B s s.heap) (hS : va_S (gA B) s.heap H locs) (hi : ¬ (i < 0 ∨ 6 ≤ i.toNatClampNeg)) (hdg : decode cc pc = .ok (.iaload, 1))
    (kk : W p l e R s m args below meth c H locs cells slots Q (F0 m (pc + 1) ls (.int (gWorth i.toNatClampNeg) :: rest))) : W p l e R s m args below meth c H locs cells slots Q (F0 m pc ls (.int i :: .ref oc.1 :: rest)) := by
  obtain ⟨cell, h1, h2, h3, h4, h5, h6, -⟩ := hK.2.1.2.1.kept (H1 := H) hS.2.1
  have hlt : i.toNatClampNeg < 6 := Nat.not_le.mp fun q => hi (Or.inr q)
  exact W.iald (v := .int (gWorth i.toNatClampNeg)) hexec hb h1 h2 h3 (fun q => hi (q.imp id (fun q => Nat.le_trans h4 q))) (h6 _ hlt) rfl rfl hdg kk
/-- COMPACT_STRINGS -/
theorem g_compact {idx : Nat} (hexec : p.tables.exec = Jvm.exec) (hb : c.code = cc) (hts : ∀ w ∈ lw_good, w.before args s = true) (hown : s.vm.findClass own = some m.cls) (hK : gK D cA oc B s s.heap) (hS : va_S (gA B) s.heap H locs) (hl : Cond.fieldLink own idx "java/lang/String" "COMPACT_STRINGS" "Z" ∈ lw_good) (hdg : decode cc pc = .ok (.getstatic idx, 3))
    (kk : W p l e R s m args below meth c H locs cells slots Q (F0 m (pc + 3) ls (.int 1 :: rest))) : W p l e R s m args below meth c H locs cells slots Q (F0 m pc ls rest) :=
  va_gets hexec hb hK.2.1.2.2.1 hS hown (hts _ hl) (fun _ h => h) hdg kk
theorem g_sioobe {idx : Nat} (hexec : p.tables.exec = Jvm.exec) (hb : c.code = cc) (hts : ∀ w ∈ lw_good, w.before args s = true) (hown : s.vm.findClass own = some m.cls) (hK : gK D cA oc B s s.heap) (hS : va_S (gA B) s.heap H locs) (hl : Cond.fieldLink own idx "jdk/internal/util/Preconditions" "SIOOBE_FORMATTER" "Ljava/util/function/BiFunction;" ∈ lw_good) (hdg : decode cc pc = .ok (.getstatic idx, 3))
    (kk : ∀ v : Option Nat, W p l e R s m args below meth c H locs cells slots Q (F0 m (pc + 3) ls (va_rf v :: rest))) : W p l e R s m args below meth c H locs cells slots Q (F0 m pc ls rest) := by
  rcases hK.2.1.2.2.2.1 with h | ⟨t, h⟩
  · exact va_gets hexec hb h hS hown (hts _ hl) (fun _ h => h) hdg (kk none)
  · exact va_gets hexec hb h hS hown (hts _ hl) (fun _ h => h) hdg (kk (some t))
theorem g_strVal {i idx : Nat} (hexec : p.tables.exec = Jvm.exec) (hb : c.code = cc) (hts : ∀ w ∈ lw_good, w.before args s = true) (hown : s.vm.findClass own = some m.cls) (hK : gK D cA oc B s s.heap) (hS : va_S (gA B) s.heap H locs) (hl : Cond.fieldLink own idx "java/lang/String" "value" "[B" ∈ lw_good) (hi : i < 5) (hdg : decode cc pc = .ok (.getfield idx, 3))
    (kk : W p l e R s m args below meth c H locs cells slots Q (F0 m (pc + 3) ls (.ref (oc.2.2 i) :: rest))) : W p l e R s m args below meth c H locs cells slots Q (F0 m pc ls (.ref (oc.2.1 i) :: rest)) :=
  vk_getf hexec hb (hK.2.1.2.2.2.2.1 i hi).2.2.1 hS hown (hts _ hl) (fun _ h => h) hdg kk
theorem g_strCod {i idx : Nat} (hexec : p.tables.exec = Jvm.exec) (hb : c.code = cc) (hts : ∀ w ∈ lw_good, w.before args s = true) (hown : s.vm.findClass own = some m.cls) (hK : gK D cA oc B s s.heap) (hS : va_S (gA B) s.heap H locs) (hl : Cond.fieldLink own idx "java/lang/String" "coder" "B" ∈ lw_good) (hi : i < 5) (hdg : decode cc pc = .ok (.getfield idx, 3))
    (kk : W p l e R s m args below meth c H locs cells slots Q (F0 m (pc + 3) ls (.int 0 :: rest))) : W p l e R s m args below meth c H locs cells slots Q (F0 m pc ls (.ref (oc.2.1 i) :: rest)) :=
  vk_getf hexec hb (hK.2.1.2.2.2.2.1 i hi).2.1 hS hown (hts _ hl) (fun _ h => h) hdg kk
theorem g_sbald {i : Nat} {j : Int32} (hexec : p.tables.exec = Jvm.exec) (hb : c.code = cc) (hK : gK D cA oc B s s.heap) (hS : va_S (gA B) s.heap H locs) (hi : i < 5) (hj : ¬ (j < 0 ∨ gLen.getD i 0 ≤ j.toNatClampNeg)) (hdg : decode cc pc = .ok (.baload, 1))
    (kk : W p l e R s m args below meth c H locs cells slots Q (F0 m (pc + 1) ls (.int ((gByt.getD i []).getD j.toNatClampNeg 0) :: rest))) : W p l e R s m args below meth c H locs cells slots Q (F0 m pc ls (.int j :: .ref (oc.2.2 i) :: rest)) := by
  obtain ⟨cell, h1, h2, h3, h4, h5, h6, -⟩ := (hK.2.1.2.2.2.2.1 i hi).2.2.2.kept (H1 := H) hS.2.1
  have hlt : j.toNatClampNeg < gLen.getD i 0 := Nat.not_le.mp fun q => hj (Or.inr q)
  exact W.bald (v := .int ((gByt.getD i []).getD j.toNatClampNeg 0)) hexec hb h1 h2 h3 (fun q => hj (q.imp id (fun q => Nat.le_trans h4 q))) (h6 _ hlt) rfl rfl hdg kk
theorem g_sblen {i : Nat} (hexec : p.tables.exec = Jvm.exec) (hb : c.code = cc) (hK : gK D cA oc B s s.heap) (hS : va_S (gA B) s.heap H locs) (hi : i < 5) (hdg : decode cc pc = .ok (.arraylength, 1))
    (kk : W p l e R s m args below meth c H locs cells slots Q (F0 m (pc + 1) ls (.int (Int32.ofNat (gLen.getD i 0)) :: rest))) : W p l e R s m args below meth c H locs cells slots Q (F0 m pc ls (.ref (oc.2.2 i) :: rest)) := by
  obtain ⟨cell, h1, h2, h3, h4, h5, h6, -⟩ := (hK.2.1.2.2.2.2.1 i hi).2.2.2.kept (H1 := H) hS.2.1
  exact W.alen (n := Int32.ofNat (gLen.getD i 0)) hexec hb h1 h2 h5 rfl rfl hdg kk
/-! returns -/
theorem g_iret {v r : Int32} {ty : FieldType} (hexec : p.tables.exec = Jvm.exec) (hb : c.code = cc) (hr : meth.sig.returnType = some ty) (hlocks : meth.locks = false) (hR : gRep D cA B w H) (hS : va_S (gA B) s.heap H locs) (hf : some (v, w) = some (r, w1)) (hn : narrow ty (.int v) = .int v) (hdg : decode cc pc = .ok (.ireturn, 1)) : W p l e R s m args below meth c H locs cells slots (MQ below (gQi D cA B r w1) args s cells slots (gA B)) (F0 m pc ls [.int v]) := by
  cases hf
  exact W.zret hexec hb hr hn (fun t ht hW => ⟨⟨v, (), rfl, rfl, (by show gRep D cA B w t.heap; rw [ht]; exact hR)⟩, hS.F ht⟩) hS.2.2 hdg hlocks
theorem g_lret {v r : Int64} (hexec : p.tables.exec = Jvm.exec) (hb : c.code = cc) (hr : meth.sig.returnType = some .long) (hlocks : meth.locks = false) (hR : gRep D cA B w H) (hS : va_S (gA B) s.heap H locs) (hf : some (v, w) = some (r, w1)) (hdg : decode cc pc = .ok (.lreturn, 1)) : W p l e R s m args below meth c H locs cells slots (MQ below (gQl D cA B r w1) args s cells slots (gA B)) (F0 m pc ls [.long v]) := by
  cases hf
  exact W.lret hexec hb hr (fun t ht hW => ⟨⟨v, (), rfl, rfl, (by show gRep D cA B w t.heap; rw [ht]; exact hR)⟩, hS.F ht⟩) hS.2.2 hdg hlocks
theorem g_vret {r : Unit} (hexec : p.tables.exec = Jvm.exec) (hb : c.code = cc) (hr : meth.sig.returnType = none) (hlocks : meth.locks = false) (hR : gRep D cA B w H) (hS : va_S (gA B) s.heap H locs) (hf : some ((), w) = some (r, w1)) (hdg : decode cc pc = .ok (.return_, 1)) : W p l e R s m args below meth c H locs cells slots (MQ below (gQv D cA B r w1) args s cells slots (gA B)) (F0 m pc ls []) := by
  cases hf
  exact W.vret hexec hb hr (fun t ht hW => ⟨⟨(), rfl, trivial, (by show gRep D cA B w t.heap; rw [ht]; exact hR)⟩, hS.F ht⟩) hS.2.2 hdg hlocks
theorem g_aret {x : Nat} {r : Option Nat} {n : String} (hexec : p.tables.exec = Jvm.exec) (hb : c.code = cc) (hr : meth.sig.returnType = some (.object n)) (hlocks : meth.locks = false) (hR : gRep D cA B w H) (hS : va_S (gA B) s.heap H locs) (hf : some (some x, w) = some (r, w1)) (hdg : decode cc pc = .ok (.areturn, 1)) : W p l e R s m args below meth c H locs cells slots (MQ below (gQr D cA B r w1) args s cells slots (gA B)) (F0 m pc ls [.ref (B + x)]) := by
  cases hf
  exact W.aret hexec hb hr (Or.inl ⟨_, rfl⟩) (Or.inr ⟨_, rfl⟩) (fun t ht hW => ⟨⟨some (B + x), (), rfl, rfl, (by show gRep D cA B w t.heap; rw [ht]; exact hR)⟩, hS.F ht⟩) hS.2.2 hdg hlocks
theorem g_aretN {r : Option Nat} {n : String} (hexec : p.tables.exec = Jvm.exec) (hb : c.code = cc) (hr : meth.sig.returnType = some (.object n)) (hlocks : meth.locks = false) (hR : gRep D cA B w H) (hS : va_S (gA B) s.heap H locs) (hf : some (none, w) = some (r, w1)) (hdg : decode cc pc = .ok (.areturn, 1)) : W p l e R s m args below meth c H locs cells slots (MQ below (gQr D cA B r w1) args s cells slots (gA B)) (F0 m pc ls [.null]) := by
  cases hf
  exact W.aret hexec hb hr (Or.inl ⟨_, rfl⟩) (Or.inl rfl) (fun t ht hW => ⟨⟨none, (), rfl, rfl, (by show gRep D cA B w t.heap; rw [ht]; exact hR)⟩, hS.F ht⟩) hS.2.2 hdg hlocks
/-! calls: the run, then what goes on -/
theorem gPre.blind {av : List Value} : FrameBlind (gPre D cA oc B av w) := by
  intro a U g mk q
  obtain ⟨q1, q2, q3⟩ := q
  exact ⟨q1, gK.moved (u := U) (U := U.calling g mk a) (State.WarmedH.refl U) (fun _ _ _ => rfl) q2, q3⟩
theorem gPre.at {av : List Value} (hK : gK D cA oc B s s.heap) (hR : gRep D cA B w H) (hS : va_S (gA B) s.heap H locs) : ∀ U : State, U.heap = H → s.WarmedH U.vm → gPre D cA oc B av w av.toArray U := fun U hU hW => ⟨rfl, hK.moved hW (by rw [hU]; exact hS.2.1), by rw [hU]; exact hR⟩
theorem gWs {y : MethodName} {bytes : ByteArray} {maxL : Nat} {ret : Option FieldType} (hts : ∀ w ∈ lw_good, w.before args s = true) (hc : Cond.code y bytes maxL ret ∈ lw_good) : ∀ w ∈ Cond.code y bytes maxL ret :: lw_good, ∀ (a' : Array Value) (U : State), s.WarmedH U.vm → w.before a' U = true := by
  intro w h a' U hW
  rcases List.mem_cons.mp h with rfl | h
  · exact word_at hW (lw_good_ok _ hc) (hts _ hc)
  · exact word_at hW (lw_good_ok _ h) (hts _ h)
theorem gLn {y : MethodName} {n : Nat} (h2 : (parseMethodDescriptor y.desc).map (fun d => d.parameters.length) = some n) : ∀ sig, parseMethodDescriptor y.desc = some sig → n = sig.parameters.length := by
  intro sig h
  rw [h] at h2
  exact (Option.some.inj h2).symm
theorem gRecv {b ci : Nat} {r : vw_C} (hK : gK D cA oc B s s.heap) (hR : gRep D cA B w H) (hc : gcl[ci]? = some r) (hk : (sh w b).1 = ci) : ∃ cellB : Cell, H[B + b]? = some cellB ∧ cellB.vm.isStatics = false ∧ s.vm.findClass r.1 = some cellB.cls := by
  obtain ⟨r', h1, cell, q1, q2, q3, q4⟩ := hR.ob hk (gl_lt hc)
  exact ⟨cell, q1, by rw [q3]; rfl, by rw [q2]; exact (hK.1.1 ci _ hc).2.1⟩
theorem gRecvS {i : Nat} (hK : gK D cA oc B s s.heap) (hS : va_S (gA B) s.heap H locs) (hi : i < 5) : ∃ cellB : Cell, H[oc.2.1 i]? = some cellB ∧ cellB.vm.isStatics = false ∧ s.vm.findClass "java/lang/String" = some cellB.cls := vk_recv hK.2.1.2.2.2.2 hi hS
theorem g_rV {y : MethodName} {bytes : ByteArray} {maxL nL idx n : Nat} {ret : Option FieldType} {rm : Room} {Qc : Array Value → State → Outcome → State → Prop} {b : Nat} {As st0 : List Value} {C : String} (hexec : p.tables.exec = Jvm.exec) (hb : c.code = cc) (hml : c.maxLocals = nL) (hown : s.vm.findClass own = some m.cls) (hts : ∀ w ∈ lw_good, w.before args s = true) (hK : gK D cA oc B s s.heap) (hR : gRep D cA B w H) (hS : va_S (gA B) s.heap H locs)
    (hM : Met l y (Cond.code y bytes maxL ret :: lw_good) rm (gPre D cA oc B (.ref b :: As) w) Qc rm.cells rm.slots (gA B)) (hI : gMI y bytes maxL ret n) (hl : Cond.methodLink own idx y ∈ lw_good) (hsel : Cond.selects C y y ∈ lw_good) (hrec : ∃ cellB : Cell, H[b]? = some cellB ∧ cellB.vm.isStatics = false ∧ s.vm.findClass C = some cellB.cls)
    (hn : As.length = n) (hstack : st0 = As.reverse ++ .ref b :: rest) (hcat : (rest.map fun v => v.category).sum ≤ 8) (hsz : ls.size = nL) (hrm : rm.frames + 1 ≤ R.frames ∧ 8 + (maxL + 11) + rm.locals ≤ R.locals) (hcs : cells + rm.cells ≤ R.cells ∧ slots + rm.slots ≤ R.slots) (hdg : decode cc pc = .ok (.invokevirtual idx, 3)) :
    va_Run p l e R s m args below meth c H locs cells slots rm.cells rm.slots (F0 m pc ls st0) rest (Qc (Value.ref b :: As).toArray) (gA B) :=
  va_runV (As := As) (rest := rest) (Ts := lw_good) ⟨hexec, hb, hml, hown, hts⟩ hM ⟨⟨rfl, rfl, hrm.1, hrm.2, gWs hts hI.1, List.mem_cons_self, hts _ hI.1, hts _ hI.2.2.1, hI.2.2.2.1, gLn hI.2.2.2.2, hts _ hl⟩, hts _ hI.2.1, hts _ hsel⟩ ⟨gPre.blind, hrec, gPre.at hK hR hS⟩ rfl hn hsz hstack (lv_room hcat) hdg hcs
theorem g_rS {y : MethodName} {bytes : ByteArray} {maxL nL idx n : Nat} {ret : Option FieldType} {rm : Room} {Qc : Array Value → State → Outcome → State → Prop} {As st0 : List Value} (hexec : p.tables.exec = Jvm.exec) (hb : c.code = cc) (hml : c.maxLocals = nL) (hown : s.vm.findClass own = some m.cls) (hts : ∀ w ∈ lw_good, w.before args s = true) (hK : gK D cA oc B s s.heap) (hR : gRep D cA B w H) (hS : va_S (gA B) s.heap H locs)
    (hM : Met l y (Cond.code y bytes maxL ret :: lw_good) rm (gPre D cA oc B As w) Qc rm.cells rm.slots (gA B)) (hI : gMS y bytes maxL ret n) (hl : Cond.methodLink own idx y ∈ lw_good)
    (hn : As.length = n) (hstack : st0 = As.reverse ++ rest) (hcat : (rest.map fun v => v.category).sum ≤ 8) (hsz : ls.size = nL) (hrm : rm.frames + 1 ≤ R.frames ∧ 8 + (maxL + 11) + rm.locals ≤ R.locals) (hcs : cells + rm.cells ≤ R.cells ∧ slots + rm.slots ≤ R.slots) (hdg : decode cc pc = .ok (.invokestatic idx, 3)) :
    va_Run p l e R s m args below meth c H locs cells slots rm.cells rm.slots (F0 m pc ls st0) rest (Qc As.toArray) (gA B) :=
  va_runS (As := As) (rest := rest) (Ts := lw_good) ⟨hexec, hb, hml, hown, hts⟩ hM ⟨⟨rfl, rfl, hrm.1, hrm.2, gWs hts hI.1, List.mem_cons_self, hts _ hI.1, hts _ hI.2.2.1, hI.2.2.2.1, gLn hI.2.2.2.2, hts _ hl⟩, hts _ hI.2.1⟩ ⟨gPre.blind, gPre.at hK hR hS⟩ rfl hn hsz hstack (lv_room hcat) hdg hcs
theorem g_rI {y : MethodName} {bytes : ByteArray} {maxL nL idx n : Nat} {rm : Room} {Qc : Array Value → State → Outcome → State → Prop} {b : Nat} {As st0 : List Value} (hexec : p.tables.exec = Jvm.exec) (hb : c.code = cc) (hml : c.maxLocals = nL) (hown : s.vm.findClass own = some m.cls) (hts : ∀ w ∈ lw_good, w.before args s = true) (hK : gK D cA oc B s s.heap) (hR : gRep D cA B w H) (hS : va_S (gA B) s.heap H locs)
    (hM : Met l y (Cond.code y bytes maxL none :: lw_good) rm (gPre D cA oc B (.ref b :: As) w) Qc rm.cells rm.slots (gA B)) (hI : gMI y bytes maxL none n) (hy1 : y.name = "<init>") (hl : Cond.methodLink own idx y ∈ lw_good)
    (hn : As.length = n) (hstack : st0 = As.reverse ++ .ref b :: rest) (hcat : (rest.map fun v => v.category).sum ≤ 8) (hsz : ls.size = nL) (hrm : rm.frames + 1 ≤ R.frames ∧ 8 + (maxL + 11) + rm.locals ≤ R.locals) (hcs : cells + rm.cells ≤ R.cells ∧ slots + rm.slots ≤ R.slots) (hdg : decode cc pc = .ok (.invokespecial idx, 3)) :
    va_Run p l e R s m args below meth c H locs cells slots rm.cells rm.slots (F0 m pc ls st0) rest (Qc (Value.ref b :: As).toArray) (gA B) :=
  va_runI (As := As) (rest := rest) (Ts := lw_good) ⟨hexec, hb, hml, hown, hts⟩ hM ⟨⟨rfl, rfl, hrm.1, hrm.2, gWs hts hI.1, List.mem_cons_self, hts _ hI.1, hts _ hI.2.2.1, hI.2.2.2.1, gLn hI.2.2.2.2, hts _ hl⟩, hy1, hts _ hI.2.1⟩ ⟨gPre.blind, gPre.at hK hR hS⟩ rfl hn hsz hstack (lv_room hcat) hdg hcs
theorem g_ki {st0 : List Value} {v : Int32} {av : Array Value} {mc ms : Nat} (hr : va_Run p l e R s m args below meth c H locs cells slots mc ms (F0 m pc ls st0) rest (gQi D cA B v w1 av) (gA B)) (hS : va_S (gA B) s.heap H locs)
    (kk : ∀ (H : Heap) (locs : List Loc), gRep D cA B w1 H → va_S (gA B) s.heap H locs → W p l e R s m args below meth c H locs (cells + mc) (slots + ms) Q (F0 m (pc + 3) ls (.int v :: rest))) : W p l e R s m args below meth c H locs cells slots Q (F0 m pc ls st0) :=
  va_calli hr hS (fun _ _ h => h) (fun _ h => h) (fun r u t H1 locs1 ht _ hp hb _ _ hS1 => by
    subst hp
    exact kk H1 locs1 (by rw [← ht]; exact hb) hS1)
theorem g_kl {st0 : List Value} {v : Int64} {av : Array Value} {mc ms : Nat} (hr : va_Run p l e R s m args below meth c H locs cells slots mc ms (F0 m pc ls st0) rest (gQl D cA B v w1 av) (gA B)) (hS : va_S (gA B) s.heap H locs)
    (kk : ∀ (H : Heap) (locs : List Loc), gRep D cA B w1 H → va_S (gA B) s.heap H locs → W p l e R s m args below meth c H locs (cells + mc) (slots + ms) Q (F0 m (pc + 3) ls (.long v :: rest))) : W p l e R s m args below meth c H locs cells slots Q (F0 m pc ls st0) :=
  va_calll hr hS (fun _ _ h => h) (fun _ h => h) (fun r u t H1 locs1 ht _ hp hb _ _ hS1 => by
    subst hp
    exact kk H1 locs1 (by rw [← ht]; exact hb) hS1)
theorem g_kv {st0 : List Value} {v : Unit} {av : Array Value} {mc ms : Nat} (hr : va_Run p l e R s m args below meth c H locs cells slots mc ms (F0 m pc ls st0) rest (gQv D cA B v w1 av) (gA B)) (hS : va_S (gA B) s.heap H locs)
    (kk : ∀ (H : Heap) (locs : List Loc), gRep D cA B w1 H → va_S (gA B) s.heap H locs → W p l e R s m args below meth c H locs (cells + mc) (slots + ms) Q (F0 m (pc + 3) ls rest)) : W p l e R s m args below meth c H locs cells slots Q (F0 m pc ls st0) :=
  va_callv hr hS (fun _ _ h => h) (fun _ h => h) (fun u t H1 locs1 ht _ hp hb _ _ hS1 => kk H1 locs1 (by rw [← ht]; exact hb) hS1)
theorem g_kr {st0 : List Value} {v : Option Nat} {av : Array Value} {mc ms : Nat} (hr : va_Run p l e R s m args below meth c H locs cells slots mc ms (F0 m pc ls st0) rest (gQr D cA B v w1 av) (gA B)) (hS : va_S (gA B) s.heap H locs)
    (kk : ∀ (H : Heap) (locs : List Loc), gRep D cA B w1 H → va_S (gA B) s.heap H locs → W p l e R s m args below meth c H locs (cells + mc) (slots + ms) Q (F0 m (pc + 3) ls (va_rf (v.map (B + ·)) :: rest))) : W p l e R s m args below meth c H locs cells slots Q (F0 m pc ls st0) :=
  va_callq hr hS (fun _ _ h => h) (fun _ h => h) (fun r u t H1 locs1 ht _ hp hb _ _ hS1 => by
    subst hp
    exact kk H1 locs1 (by rw [← ht]; exact hb) hS1)
end ROWS3
