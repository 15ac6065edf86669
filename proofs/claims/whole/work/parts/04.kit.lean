/-! ===== putfield, aastore, arraycopy, statics, text constants ===== -/
def gPut (own : String) (idx ci k : Nat) (fin : Bool) : Prop := ∃ (C : String) (T : u_T) (N : Nat), gcl[ci]? = some (C, T, N) ∧ (∀ w ∈ u_ws C T N, w ∈ lw_good) ∧ k < N ∧ (∀ k, k < N → parseFieldDescriptor (T k).2.2.1 = some (gT ci k)) ∧ (∀ a, a < N → ∀ b, b < N → a ≠ b → (T a).2.1 ≠ (T b).2.1) ∧ (T k).2.2.2 = fin ∧ (fin = true → (T k).1 = own) ∧ ∃ ref, Cond.fieldLink own idx ref (T k).2.1 (T k).2.2.1 ∈ lw_good ∧ ref = (T k).1
section ROWS2
variable {p : Program} {l : Launch} {e : Env} {R : Room} {s : State} {m : MethodId} {args : Array Value} {below : List Frame} {meth : Method} {c : Code} {H : Heap} {locs : List Loc} {cells slots : Nat} {Q : State → Prop}
variable {cc : ByteArray} {pc : Nat} {ls : Array Slot} {rest : List Value} {D : va_G} {cA : Nat → ClassId} {oc : gO} {B : Nat} {w w1 : gW} {a : Nat} {own : String}
theorem g_put0 {idx ci k : Nat} {v : Value} {w1 : gW} (hexec : p.tables.exec = Jvm.exec) (hb : c.code = cc) (hts : ∀ w ∈ lw_good, w.before args s = true) (hown : s.vm.findClass own = some m.cls) (hK : gK D cA oc B s s.heap) (hR : gRep D cA B w H) (hS : va_S (gA B) s.heap H locs) (hF : gPut own idx ci k false) (hk : (sh w a).1 = ci)
    (hn : narrow (gT ci k) v = v) (hfit : fits (gT ci k) v = true) (e0 : nx w1 = nx w) (e1 : ∀ b, sh w1 b = sh w b) (e2 : ∀ b, b ≠ a → ∀ k, gI w1 b k = gI w b k ∧ gL w1 b k = gL w b k ∧ gR w1 b k = gR w b k) (e3 : ∀ j, gVal B (gT ci j) w1 a j = updV (fun j => gVal B (gT ci j) w a j) k v j) (hdg : decode cc pc = .ok (.putfield idx, 3))
    (kk : ∀ (H : Heap) (locs : List Loc), gRep D cA B w1 H → va_S (gA B) s.heap H locs → W p l e R s m args below meth c H locs cells slots Q (F0 m (pc + 3) ls rest)) : W p l e R s m args below meth c H locs cells slots Q (F0 m pc ls (v :: .ref (B + a) :: rest)) := by
  obtain ⟨C, T, N, hc, hin, hkN, hty, hnm, hfin, -, ref, hl, hsm⟩ := hF
  obtain ⟨r, h1, cell, q1, q2, q3, q4⟩ := hR.ob hk (gl_lt hc)
  have hr : r = (C, T, N) := Option.some.inj (h1.symm.trans hc)
  subst hr
  have hap : ∀ x y, x < N → y < N → x ≠ y → (D.2 ci) x ≠ (D.2 ci) y := va_apart (own := own) (tys := []) hts hin (gT ci) hty hnm ⟨hK.1.1, fun k q h => by simp at h⟩ hc
  obtain ⟨hSl, hfc, kC, hkC, hkind⟩ := hK.1.1 ci _ hc
  obtain ⟨cf, kf, fi, f, hi, hsl⟩ := hSl k hkN
  have hlay := hts _ (hin _ (u_in_lay hkN))
  unfold u_lay at hlay
  rw [if_neg (by rw [hfin]; decide)] at hlay
  have hst := (u_facts hfc hkC (u_lays hts hin hkN) hi).1
  have h6 := u_store hfc hkC hkind hlay hi (hty k hkN) hn hfit
  refine W.putK hexec hb (f := f) ⟨hown, hts _ hl, ⟨_, _, _, gSame hts (Or.inl hsm) _ hi⟩, hst⟩ (by rw [q2]; exact h6) q1 q3 (by rw [hsl]; exact k2_hasslot (q4 k hkN)) rfl rfl hdg fun H' g1 g2 g3 => ?_
  rw [hsl] at g1 ⊢
  refine kk H' _ (hR.sob hk (gl_lt hc) e0 e1 hc g2 g3 (t_OB.to (V := updV (fun j => gVal B (gT ci j) w a j) k v) ⟨_, g1, q2, q3, t_set q4 hap hkN v⟩ (fun j _ => (e3 j).symm)) e2) (hS.put g2 g3 (Nat.le_add_right _ _))
theorem g_putF0 {idx ci k : Nat} {v : Value} {w1 : gW} (hexec : p.tables.exec = Jvm.exec) (hb : c.code = cc) (hts : ∀ w ∈ lw_good, w.before args s = true) (hown : s.vm.findClass own = some m.cls) (hK : gK D cA oc B s s.heap) (hR : gRep D cA B w H) (hS : va_S (gA B) s.heap H locs) (hF : gPut own idx ci k true) (hin2 : meth.name = "<init>") (hk : (sh w a).1 = ci)
    (hn : narrow (gT ci k) v = v) (hfit : fits (gT ci k) v = true) (e0 : nx w1 = nx w) (e1 : ∀ b, sh w1 b = sh w b) (e2 : ∀ b, b ≠ a → ∀ k, gI w1 b k = gI w b k ∧ gL w1 b k = gL w b k ∧ gR w1 b k = gR w b k) (e3 : ∀ j, gVal B (gT ci j) w1 a j = updV (fun j => gVal B (gT ci j) w a j) k v j) (hdg : decode cc pc = .ok (.putfield idx, 3))
    (kk : ∀ (H : Heap) (locs : List Loc), gRep D cA B w1 H → va_S (gA B) s.heap H locs → W p l e R s m args below meth c H locs cells slots Q (F0 m (pc + 3) ls rest)) : W p l e R s m args below meth c H locs cells slots Q (F0 m pc ls (v :: .ref (B + a) :: rest)) := by
  obtain ⟨C, T, N, hc, hin, hkN, hty, hnm, hfin, hdecl, ref, hl, hsm⟩ := hF
  obtain ⟨r, h1, cell, q1, q2, q3, q4⟩ := hR.ob hk (gl_lt hc)
  have hr : r = (C, T, N) := Option.some.inj (h1.symm.trans hc)
  subst hr
  have hap : ∀ x y, x < N → y < N → x ≠ y → (D.2 ci) x ≠ (D.2 ci) y := va_apart (own := own) (tys := []) hts hin (gT ci) hty hnm ⟨hK.1.1, fun k q h => by simp at h⟩ hc
  obtain ⟨hSl, hfc, kC, hkC, hkind⟩ := hK.1.1 ci _ hc
  obtain ⟨cf, kf, fi, f, hi, hsl⟩ := hSl k hkN
  have hlay := hts _ (hin _ (u_in_lay hkN))
  unfold u_lay at hlay
  rw [if_pos hfin] at hlay
  have hst := (u_facts hfc hkC (u_lays hts hin hkN) hi).1
  have hcf : m.cls = cf := by
    obtain ⟨_, _, c', _, _, _, -, -, hf', -, -, -, hown2, -⟩ := Cond.laysFinal_spec hlay
    have e1 : c' = cf := by have := hi.symm.trans hf'; simp at this; exact this.1.symm
    rw [hdecl rfl] at hown2
    rw [← e1]; exact Option.some.inj (hown.symm.trans hown2)
  have h6 := u_fits hfc hkC hkind (Or.inr hlay) hi (hty k hkN) hn hfit
  refine W.putFinK hexec hb hown (hts _ hl) (gSame hts (Or.inl hsm) _ hi) hst hcf hin2 (by rw [q2]; exact h6) q1 q3 (by rw [hsl]; exact k2_hasslot (q4 k hkN)) rfl rfl hdg fun H' g1 g2 g3 => ?_
  rw [hsl] at g1 ⊢
  refine kk H' _ (hR.sob hk (gl_lt hc) e0 e1 hc g2 g3 (t_OB.to (V := updV (fun j => gVal B (gT ci j) w a j) k v) ⟨_, g1, q2, q3, t_set q4 hap hkN v⟩ (fun j _ => (e3 j).symm)) e2) (hS.put g2 g3 (Nat.le_add_right _ _))
theorem sI_v {ci k : Nat} {x : Int32} (hv : ∀ u, gVal B (gT ci k) u a k = .int (gI u a k)) : ∀ j, gVal B (gT ci j) (sI w a k x) a j = updV (fun j => gVal B (gT ci j) w a j) k (.int x) j := by
  intro j
  by_cases hj : j = k
  · subst hj
    rw [hv]
    simp [updV, gI, sI]
  · rw [gVal_c (w := w) (w' := sI w a k x) (by simp [gI, sI, hj]) rfl rfl]
    simp [updV, hj]
theorem sR_v {ci k : Nat} {x : Option Nat} (hv : ∀ u, gVal B (gT ci k) u a k = va_rf ((gR u a k).map (B + ·))) : ∀ j, gVal B (gT ci j) (sR w a k x) a j = updV (fun j => gVal B (gT ci j) w a j) k (va_rf (x.map (B + ·))) j := by
  intro j
  by_cases hj : j = k
  · subst hj
    rw [hv]
    simp [updV, gR, sR]
  · rw [gVal_c (w := w) (w' := sR w a k x) rfl rfl (by simp [gR, sR, hj])]
    simp [updV, hj]
theorem sI_o {k : Nat} {x : Int32} : ∀ b, b ≠ a → ∀ j, gI (sI w a k x) b j = gI w b j ∧ gL (sI w a k x) b j = gL w b j ∧ gR (sI w a k x) b j = gR w b j := fun b hb j => ⟨by simp [gI, sI, hb], rfl, rfl⟩
theorem sR_o {k : Nat} {x : Option Nat} : ∀ b, b ≠ a → ∀ j, gI (sR w a k x) b j = gI w b j ∧ gL (sR w a k x) b j = gL w b j ∧ gR (sR w a k x) b j = gR w b j := fun b hb j => ⟨rfl, rfl, by simp [gR, sR, hb]⟩
theorem g_putI {idx ci k : Nat} {x : Int32} (hexec : p.tables.exec = Jvm.exec) (hb : c.code = cc) (hts : ∀ w ∈ lw_good, w.before args s = true) (hown : s.vm.findClass own = some m.cls) (hK : gK D cA oc B s s.heap) (hR : gRep D cA B w H) (hS : va_S (gA B) s.heap H locs) (hF : gPut own idx ci k false) (hv : ∀ u, gVal B (gT ci k) u a k = .int (gI u a k)) (hn : narrow (gT ci k) (.int x) = .int x) (hfit : fits (gT ci k) (.int x) = true) (hk : (sh w a).1 = ci) (hdg : decode cc pc = .ok (.putfield idx, 3))
    (kk : ∀ (H : Heap) (locs : List Loc), gRep D cA B (sI w a k x) H → va_S (gA B) s.heap H locs → W p l e R s m args below meth c H locs cells slots Q (F0 m (pc + 3) ls rest)) : W p l e R s m args below meth c H locs cells slots Q (F0 m pc ls (.int x :: .ref (B + a) :: rest)) := g_put0 (w1 := sI w a k x) hexec hb hts hown hK hR hS hF hk hn hfit rfl (fun _ => rfl) sI_o (sI_v hv) hdg kk
theorem g_putFI {idx ci k : Nat} {x : Int32} (hexec : p.tables.exec = Jvm.exec) (hb : c.code = cc) (hts : ∀ w ∈ lw_good, w.before args s = true) (hown : s.vm.findClass own = some m.cls) (hK : gK D cA oc B s s.heap) (hR : gRep D cA B w H) (hS : va_S (gA B) s.heap H locs) (hF : gPut own idx ci k true) (hin : meth.name = "<init>") (hv : ∀ u, gVal B (gT ci k) u a k = .int (gI u a k)) (hn : narrow (gT ci k) (.int x) = .int x) (hfit : fits (gT ci k) (.int x) = true) (hk : (sh w a).1 = ci) (hdg : decode cc pc = .ok (.putfield idx, 3))
    (kk : ∀ (H : Heap) (locs : List Loc), gRep D cA B (sI w a k x) H → va_S (gA B) s.heap H locs → W p l e R s m args below meth c H locs cells slots Q (F0 m (pc + 3) ls rest)) : W p l e R s m args below meth c H locs cells slots Q (F0 m pc ls (.int x :: .ref (B + a) :: rest)) := g_putF0 (w1 := sI w a k x) hexec hb hts hown hK hR hS hF hin hk hn hfit rfl (fun _ => rfl) sI_o (sI_v hv) hdg kk
theorem g_putR {idx ci k x : Nat} (hexec : p.tables.exec = Jvm.exec) (hb : c.code = cc) (hts : ∀ w ∈ lw_good, w.before args s = true) (hown : s.vm.findClass own = some m.cls) (hK : gK D cA oc B s s.heap) (hR : gRep D cA B w H) (hS : va_S (gA B) s.heap H locs) (hF : gPut own idx ci k false) (hv : ∀ u, gVal B (gT ci k) u a k = va_rf ((gR u a k).map (B + ·))) (hn : ∀ x, narrow (gT ci k) (.ref x) = .ref x) (hfit : ∀ x, fits (gT ci k) (.ref x) = true) (hk : (sh w a).1 = ci) (hdg : decode cc pc = .ok (.putfield idx, 3))
    (kk : ∀ (H : Heap) (locs : List Loc), gRep D cA B (sR w a k (some x)) H → va_S (gA B) s.heap H locs → W p l e R s m args below meth c H locs cells slots Q (F0 m (pc + 3) ls rest)) : W p l e R s m args below meth c H locs cells slots Q (F0 m pc ls (.ref (B + x) :: .ref (B + a) :: rest)) := g_put0 (w1 := sR w a k (some x)) hexec hb hts hown hK hR hS hF hk (hn _) (hfit _) rfl (fun _ => rfl) sR_o (sR_v (x := some x) hv) hdg kk
theorem g_putRN {idx ci k : Nat} (hexec : p.tables.exec = Jvm.exec) (hb : c.code = cc) (hts : ∀ w ∈ lw_good, w.before args s = true) (hown : s.vm.findClass own = some m.cls) (hK : gK D cA oc B s s.heap) (hR : gRep D cA B w H) (hS : va_S (gA B) s.heap H locs) (hF : gPut own idx ci k false) (hv : ∀ u, gVal B (gT ci k) u a k = va_rf ((gR u a k).map (B + ·))) (hn : narrow (gT ci k) .null = .null) (hfit : fits (gT ci k) .null = true) (hk : (sh w a).1 = ci) (hdg : decode cc pc = .ok (.putfield idx, 3))
    (kk : ∀ (H : Heap) (locs : List Loc), gRep D cA B (sR w a k none) H → va_S (gA B) s.heap H locs → W p l e R s m args below meth c H locs cells slots Q (F0 m (pc + 3) ls rest)) : W p l e R s m args below meth c H locs cells slots Q (F0 m pc ls (.null :: .ref (B + a) :: rest)) := g_put0 (w1 := sR w a k none) hexec hb hts hown hK hR hS hF hk hn hfit rfl (fun _ => rfl) sR_o (sR_v (x := none) hv) hdg kk
theorem g_putFR {idx ci k x : Nat} (hexec : p.tables.exec = Jvm.exec) (hb : c.code = cc) (hts : ∀ w ∈ lw_good, w.before args s = true) (hown : s.vm.findClass own = some m.cls) (hK : gK D cA oc B s s.heap) (hR : gRep D cA B w H) (hS : va_S (gA B) s.heap H locs) (hF : gPut own idx ci k true) (hin : meth.name = "<init>") (hv : ∀ u, gVal B (gT ci k) u a k = va_rf ((gR u a k).map (B + ·))) (hn : ∀ x, narrow (gT ci k) (.ref x) = .ref x) (hfit : ∀ x, fits (gT ci k) (.ref x) = true) (hk : (sh w a).1 = ci) (hdg : decode cc pc = .ok (.putfield idx, 3))
    (kk : ∀ (H : Heap) (locs : List Loc), gRep D cA B (sR w a k (some x)) H → va_S (gA B) s.heap H locs → W p l e R s m args below meth c H locs cells slots Q (F0 m (pc + 3) ls rest)) : W p l e R s m args below meth c H locs cells slots Q (F0 m pc ls (.ref (B + x) :: .ref (B + a) :: rest)) := g_putF0 (w1 := sR w a k (some x)) hexec hb hts hown hK hR hS hF hin hk (hn _) (hfit _) rfl (fun _ => rfl) sR_o (sR_v (x := some x) hv) hdg kk
/-! arrays of references -/
theorem g_aast {i : Int32} {kd x : Nat} {E : String} (hexec : p.tables.exec = Jvm.exec) (hb : c.code = cc) (hK : gK D cA oc B s s.heap) (hR : gRep D cA B w H) (hS : va_S (gA B) s.heap H locs) (hkd : 50 ≤ kd ∧ kd < 58) (hE : gAT kd = .object E) (hany : va_Any E s H (B + x)) (hk : (sh w a).1 = kd) (hi : ¬ (i < 0 ∨ (sh w a).2 ≤ i.toNatClampNeg)) (hdg : decode cc pc = .ok (.aastore, 1))
    (kk : ∀ (H : Heap) (locs : List Loc), gRep D cA B (sR w a i.toNatClampNeg (some x)) H → va_S (gA B) s.heap H locs → W p l e R s m args below meth c H locs cells slots Q (F0 m (pc + 1) ls rest)) : W p l e R s m args below meth c H locs cells slots Q (F0 m pc ls (.ref (B + x) :: .int i :: .ref (B + a) :: rest)) := by
  have hlt : i.toNatClampNeg < (sh w a).2 := Nat.not_le.mp fun q => hi (Or.inr q)
  have h0 : ¬ i < 0 := fun q => hi (Or.inl q)
  obtain ⟨cellV, g1, g3, ⟨kC, hkC⟩, hasg⟩ := hany
  have hra := (hK.1.2 kd hkd.1 hkd.2).2
  rw [hE] at hra
  obtain ⟨kA, comp, k1, k2, k3, -⟩ := hra
  obtain ⟨kE, hkE, -⟩ := Vm.findClass_spec k3
  have hc := hR.ar hk ⟨hkd.1, by omega⟩
  refine W.aast hexec hb hc (fun q h => by cases h) (fun h => by cases h) k1 k2 rfl hkE ⟨h0, by rw [arrV_size]; exact hlt⟩ g1 (fun q h => by rw [h] at g3; cases g3) hkC (hasg _ k3) rfl rfl hdg fun H1 e1 z oq => ?_
  exact kk H1 _ (hR.sRa (x := some x) hk ⟨hkd.1, by omega⟩ (fun u j => by rw [hE]; rfl) e1 z oq) (hS.put z oq (Nat.le_add_right _ _))
theorem g_aastN {i : Int32} {kd : Nat} {E : String} (hexec : p.tables.exec = Jvm.exec) (hb : c.code = cc) (hK : gK D cA oc B s s.heap) (hR : gRep D cA B w H) (hS : va_S (gA B) s.heap H locs) (hkd : 50 ≤ kd ∧ kd < 58) (hE : gAT kd = .object E) (hk : (sh w a).1 = kd) (hi : ¬ (i < 0 ∨ (sh w a).2 ≤ i.toNatClampNeg)) (hdg : decode cc pc = .ok (.aastore, 1))
    (kk : ∀ (H : Heap) (locs : List Loc), gRep D cA B (sR w a i.toNatClampNeg none) H → va_S (gA B) s.heap H locs → W p l e R s m args below meth c H locs cells slots Q (F0 m (pc + 1) ls rest)) : W p l e R s m args below meth c H locs cells slots Q (F0 m pc ls (.null :: .int i :: .ref (B + a) :: rest)) := by
  have hA := (hK.1.2 kd hkd.1 hkd.2).1
  refine va_WaastN (C := E) hexec hb (hR.ar hk ⟨hkd.1, by omega⟩) (by rw [← hE]; exact hA _ _) (fun h => by cases h) (g_in hi _ _) rfl rfl hdg fun H1 e1 z oq => ?_
  exact kk H1 _ (hR.sRa (x := none) hk ⟨hkd.1, by omega⟩ (fun u j => by rw [hE]; rfl) e1 z oq) (hS.put z oq (Nat.le_add_right _ _))
/-- an object of a class may stand in an array of its class or of one above it -/
theorem g_any {ci x : Nat} {r : vw_C} {E : String} (hK : gK D cA oc B s s.heap) (hR : gRep D cA B w H) (hc : gcl[ci]? = some r) (hk : (sh w x).1 = ci) (h : r.1 = E ∨ (r.1, E) ∈ gKc) : va_Any E s H (B + x) := by
  obtain ⟨r', h1, cell, q1, q2, q3, q4⟩ := hR.ob hk (gl_lt hc)
  have hr : r' = r := Option.some.inj (h1.symm.trans hc)
  subst hr
  obtain ⟨hS, hcls⟩ := hK.1.1 ci _ hc
  obtain ⟨hfc, kC, hkC, hkind⟩ := id hcls
  refine ⟨cell, q1, by rw [q3]; rfl, ⟨kC, by rw [q2]; exact hkC⟩, fun comp hcomp => ?_⟩
  rw [q2]
  rcases h with h | h
  · rw [← h] at hcomp
    have : comp = D.1 ci := Option.some.inj (hcomp.symm.trans hfc)
    rw [this]
    exact va_assign hcls
  · obtain ⟨c3, t3, w1, w2, w3⟩ := Cond.castable_spec (hK.2.2.2.2.2.1 _ h)
    cases hfc.symm.trans w1
    cases hcomp.symm.trans w2
    exact w3
end ROWS2
