/-! ===== instanceof, new ===== -/
section ROWS6
variable {p : Program} {l : Launch} {e : Env} {R : Room} {s : State} {m : MethodId} {args : Array Value} {below : List Frame} {meth : Method} {c : Code} {H : Heap} {locs : List Loc} {cells slots : Nat} {Q : State → Prop}
variable {cc : ByteArray} {pc : Nat} {ls : Array Slot} {rest : List Value} {D : va_G} {cA : Nat → ClassId} {oc : gO} {B : Nat} {w w1 : gW} {a : Nat} {own : String}
theorem g_instE {idx : Nat} (hexec : p.tables.exec = Jvm.exec) (hb : c.code = cc) (hts : ∀ w ∈ lw_good, w.before args s = true) (hown : s.vm.findClass own = some m.cls) (hK : gK D cA oc B s s.heap) (hR : gRep D cA B w H) (hl : Cond.classLink own idx "RidCoppers$Exact" ∈ lw_good) (h : (sh w a).1 < 7) (hdg : decode cc pc = .ok (.instanceof idx, 3))
    (kk : W p l e R s m args below meth c H locs cells slots Q (F0 m (pc + 3) ls (.int (instE (sh w a).1) :: rest))) : W p l e R s m args below meth c H locs cells slots Q (F0 m pc ls (.ref (B + a) :: rest)) := by
  generalize hk : (sh w a).1 = ci at h kk
  match ci, h with
  | 0, _ => exact va_instNo (C := "RidCoppers$Payer") hexec hb hown (hts _ hl) (hK.2.2.2.2.2.2.2 (_, _) (by decide)) (gRecv hK hR (ci := 0) rfl hk) hdg kk
  | 1, _ => exact va_instS hexec hb hown (hts _ hl) (gAtP hK (ci := 1) rfl) (gRecv hK hR (ci := 1) rfl hk) hdg kk
  | 2, _ => exact va_instNo (C := "RidCoppers$Rough") hexec hb hown (hts _ hl) (hK.2.2.2.2.2.2.2 (_, _) (by decide)) (gRecv hK hR (ci := 2) rfl hk) hdg kk
  | 3, _ => exact va_instNo (C := "RidCoppers$Keeper") hexec hb hown (hts _ hl) (hK.2.2.2.2.2.2.2 (_, _) (by decide)) (gRecv hK hR (ci := 3) rfl hk) hdg kk
  | 4, _ => exact va_instY (C := "RidCoppers$Light") hexec hb hown (hts _ hl) (hK.2.2.2.2.2.1 (_, _) (by decide)) (gRecv hK hR (ci := 4) rfl hk) hdg kk
  | 5, _ => exact va_instNo (C := "RidCoppers$Wild") hexec hb hown (hts _ hl) (hK.2.2.2.2.2.2.2 (_, _) (by decide)) (gRecv hK hR (ci := 5) rfl hk) hdg kk
  | 6, _ => exact va_instNo (C := "RidCoppers$Told") hexec hb hown (hts _ hl) (hK.2.2.2.2.2.2.2 (_, _) (by decide)) (gRecv hK hR (ci := 6) rfl hk) hdg kk
  | ci + 7, h => exact absurd h (by omega)
theorem g_instRo {idx : Nat} (hexec : p.tables.exec = Jvm.exec) (hb : c.code = cc) (hts : ∀ w ∈ lw_good, w.before args s = true) (hown : s.vm.findClass own = some m.cls) (hK : gK D cA oc B s s.heap) (hR : gRep D cA B w H) (hl : Cond.classLink own idx "RidCoppers$Rough" ∈ lw_good) (h : (sh w a).1 < 7) (hdg : decode cc pc = .ok (.instanceof idx, 3))
    (kk : W p l e R s m args below meth c H locs cells slots Q (F0 m (pc + 3) ls (.int (instRo (sh w a).1) :: rest))) : W p l e R s m args below meth c H locs cells slots Q (F0 m pc ls (.ref (B + a) :: rest)) := by
  generalize hk : (sh w a).1 = ci at h kk
  match ci, h with
  | 0, _ => exact va_instNo (C := "RidCoppers$Payer") hexec hb hown (hts _ hl) (hK.2.2.2.2.2.2.2 (_, _) (by decide)) (gRecv hK hR (ci := 0) rfl hk) hdg kk
  | 1, _ => exact va_instNo (C := "RidCoppers$Exact") hexec hb hown (hts _ hl) (hK.2.2.2.2.2.2.2 (_, _) (by decide)) (gRecv hK hR (ci := 1) rfl hk) hdg kk
  | 2, _ => exact va_instS hexec hb hown (hts _ hl) (gAtP hK (ci := 2) rfl) (gRecv hK hR (ci := 2) rfl hk) hdg kk
  | 3, _ => exact va_instNo (C := "RidCoppers$Keeper") hexec hb hown (hts _ hl) (hK.2.2.2.2.2.2.2 (_, _) (by decide)) (gRecv hK hR (ci := 3) rfl hk) hdg kk
  | 4, _ => exact va_instNo (C := "RidCoppers$Light") hexec hb hown (hts _ hl) (hK.2.2.2.2.2.2.2 (_, _) (by decide)) (gRecv hK hR (ci := 4) rfl hk) hdg kk
  | 5, _ => exact va_instY (C := "RidCoppers$Wild") hexec hb hown (hts _ hl) (hK.2.2.2.2.2.1 (_, _) (by decide)) (gRecv hK hR (ci := 5) rfl hk) hdg kk
  | 6, _ => exact va_instNo (C := "RidCoppers$Told") hexec hb hown (hts _ hl) (hK.2.2.2.2.2.2.2 (_, _) (by decide)) (gRecv hK hR (ci := 6) rfl hk) hdg kk
  | ci + 7, h => exact absurd h (by omega)
theorem g_instKe {idx : Nat} (hexec : p.tables.exec = Jvm.exec) (hb : c.code = cc) (hts : ∀ w ∈ lw_good, w.before args s = true) (hown : s.vm.findClass own = some m.cls) (hK : gK D cA oc B s s.heap) (hR : gRep D cA B w H) (hl : Cond.classLink own idx "RidCoppers$Keeper" ∈ lw_good) (h : (sh w a).1 < 7) (hdg : decode cc pc = .ok (.instanceof idx, 3))
    (kk : W p l e R s m args below meth c H locs cells slots Q (F0 m (pc + 3) ls (.int (instKe (sh w a).1) :: rest))) : W p l e R s m args below meth c H locs cells slots Q (F0 m pc ls (.ref (B + a) :: rest)) := by
  generalize hk : (sh w a).1 = ci at h kk
  match ci, h with
  | 0, _ => exact va_instNo (C := "RidCoppers$Payer") hexec hb hown (hts _ hl) (hK.2.2.2.2.2.2.2 (_, _) (by decide)) (gRecv hK hR (ci := 0) rfl hk) hdg kk
  | 1, _ => exact va_instNo (C := "RidCoppers$Exact") hexec hb hown (hts _ hl) (hK.2.2.2.2.2.2.2 (_, _) (by decide)) (gRecv hK hR (ci := 1) rfl hk) hdg kk
  | 2, _ => exact va_instNo (C := "RidCoppers$Rough") hexec hb hown (hts _ hl) (hK.2.2.2.2.2.2.2 (_, _) (by decide)) (gRecv hK hR (ci := 2) rfl hk) hdg kk
  | 3, _ => exact va_instS hexec hb hown (hts _ hl) (gAtP hK (ci := 3) rfl) (gRecv hK hR (ci := 3) rfl hk) hdg kk
  | 4, _ => exact va_instNo (C := "RidCoppers$Light") hexec hb hown (hts _ hl) (hK.2.2.2.2.2.2.2 (_, _) (by decide)) (gRecv hK hR (ci := 4) rfl hk) hdg kk
  | 5, _ => exact va_instNo (C := "RidCoppers$Wild") hexec hb hown (hts _ hl) (hK.2.2.2.2.2.2.2 (_, _) (by decide)) (gRecv hK hR (ci := 5) rfl hk) hdg kk
  | 6, _ => exact va_instY (C := "RidCoppers$Told") hexec hb hown (hts _ hl) (hK.2.2.2.2.2.1 (_, _) (by decide)) (gRecv hK hR (ci := 6) rfl hk) hdg kk
  | ci + 7, h => exact absurd h (by omega)
theorem g_instLi {idx : Nat} (hexec : p.tables.exec = Jvm.exec) (hb : c.code = cc) (hts : ∀ w ∈ lw_good, w.before args s = true) (hown : s.vm.findClass own = some m.cls) (hK : gK D cA oc B s s.heap) (hR : gRep D cA B w H) (hl : Cond.classLink own idx "RidCoppers$Light" ∈ lw_good) (h : (sh w a).1 < 7) (hdg : decode cc pc = .ok (.instanceof idx, 3))
    (kk : W p l e R s m args below meth c H locs cells slots Q (F0 m (pc + 3) ls (.int (instLi (sh w a).1) :: rest))) : W p l e R s m args below meth c H locs cells slots Q (F0 m pc ls (.ref (B + a) :: rest)) := by
  generalize hk : (sh w a).1 = ci at h kk
  match ci, h with
  | 0, _ => exact va_instNo (C := "RidCoppers$Payer") hexec hb hown (hts _ hl) (hK.2.2.2.2.2.2.2 (_, _) (by decide)) (gRecv hK hR (ci := 0) rfl hk) hdg kk
  | 1, _ => exact va_instNo (C := "RidCoppers$Exact") hexec hb hown (hts _ hl) (hK.2.2.2.2.2.2.2 (_, _) (by decide)) (gRecv hK hR (ci := 1) rfl hk) hdg kk
  | 2, _ => exact va_instNo (C := "RidCoppers$Rough") hexec hb hown (hts _ hl) (hK.2.2.2.2.2.2.2 (_, _) (by decide)) (gRecv hK hR (ci := 2) rfl hk) hdg kk
  | 3, _ => exact va_instNo (C := "RidCoppers$Keeper") hexec hb hown (hts _ hl) (hK.2.2.2.2.2.2.2 (_, _) (by decide)) (gRecv hK hR (ci := 3) rfl hk) hdg kk
  | 4, _ => exact va_instS hexec hb hown (hts _ hl) (gAtP hK (ci := 4) rfl) (gRecv hK hR (ci := 4) rfl hk) hdg kk
  | 5, _ => exact va_instNo (C := "RidCoppers$Wild") hexec hb hown (hts _ hl) (hK.2.2.2.2.2.2.2 (_, _) (by decide)) (gRecv hK hR (ci := 5) rfl hk) hdg kk
  | 6, _ => exact va_instNo (C := "RidCoppers$Told") hexec hb hown (hts _ hl) (hK.2.2.2.2.2.2.2 (_, _) (by decide)) (gRecv hK hR (ci := 6) rfl hk) hdg kk
  | ci + 7, h => exact absurd h (by omega)
theorem g_instWi {idx : Nat} (hexec : p.tables.exec = Jvm.exec) (hb : c.code = cc) (hts : ∀ w ∈ lw_good, w.before args s = true) (hown : s.vm.findClass own = some m.cls) (hK : gK D cA oc B s s.heap) (hR : gRep D cA B w H) (hl : Cond.classLink own idx "RidCoppers$Wild" ∈ lw_good) (h : (sh w a).1 < 7) (hdg : decode cc pc = .ok (.instanceof idx, 3))
    (kk : W p l e R s m args below meth c H locs cells slots Q (F0 m (pc + 3) ls (.int (instWi (sh w a).1) :: rest))) : W p l e R s m args below meth c H locs cells slots Q (F0 m pc ls (.ref (B + a) :: rest)) := by
  generalize hk : (sh w a).1 = ci at h kk
  match ci, h with
  | 0, _ => exact va_instNo (C := "RidCoppers$Payer") hexec hb hown (hts _ hl) (hK.2.2.2.2.2.2.2 (_, _) (by decide)) (gRecv hK hR (ci := 0) rfl hk) hdg kk
  | 1, _ => exact va_instNo (C := "RidCoppers$Exact") hexec hb hown (hts _ hl) (hK.2.2.2.2.2.2.2 (_, _) (by decide)) (gRecv hK hR (ci := 1) rfl hk) hdg kk
  | 2, _ => exact va_instNo (C := "RidCoppers$Rough") hexec hb hown (hts _ hl) (hK.2.2.2.2.2.2.2 (_, _) (by decide)) (gRecv hK hR (ci := 2) rfl hk) hdg kk
  | 3, _ => exact va_instNo (C := "RidCoppers$Keeper") hexec hb hown (hts _ hl) (hK.2.2.2.2.2.2.2 (_, _) (by decide)) (gRecv hK hR (ci := 3) rfl hk) hdg kk
  | 4, _ => exact va_instNo (C := "RidCoppers$Light") hexec hb hown (hts _ hl) (hK.2.2.2.2.2.2.2 (_, _) (by decide)) (gRecv hK hR (ci := 4) rfl hk) hdg kk
  | 5, _ => exact va_instS hexec hb hown (hts _ hl) (gAtP hK (ci := 5) rfl) (gRecv hK hR (ci := 5) rfl hk) hdg kk
  | 6, _ => exact va_instNo (C := "RidCoppers$Told") hexec hb hown (hts _ hl) (hK.2.2.2.2.2.2.2 (_, _) (by decide)) (gRecv hK hR (ci := 6) rfl hk) hdg kk
  | ci + 7, h => exact absurd h (by omega)
theorem g_instTo {idx : Nat} (hexec : p.tables.exec = Jvm.exec) (hb : c.code = cc) (hts : ∀ w ∈ lw_good, w.before args s = true) (hown : s.vm.findClass own = some m.cls) (hK : gK D cA oc B s s.heap) (hR : gRep D cA B w H) (hl : Cond.classLink own idx "RidCoppers$Told" ∈ lw_good) (h : (sh w a).1 < 7) (hdg : decode cc pc = .ok (.instanceof idx, 3))
    (kk : W p l e R s m args below meth c H locs cells slots Q (F0 m (pc + 3) ls (.int (instTo (sh w a).1) :: rest))) : W p l e R s m args below meth c H locs cells slots Q (F0 m pc ls (.ref (B + a) :: rest)) := by
  generalize hk : (sh w a).1 = ci at h kk
  match ci, h with
  | 0, _ => exact va_instNo (C := "RidCoppers$Payer") hexec hb hown (hts _ hl) (hK.2.2.2.2.2.2.2 (_, _) (by decide)) (gRecv hK hR (ci := 0) rfl hk) hdg kk
  | 1, _ => exact va_instNo (C := "RidCoppers$Exact") hexec hb hown (hts _ hl) (hK.2.2.2.2.2.2.2 (_, _) (by decide)) (gRecv hK hR (ci := 1) rfl hk) hdg kk
  | 2, _ => exact va_instNo (C := "RidCoppers$Rough") hexec hb hown (hts _ hl) (hK.2.2.2.2.2.2.2 (_, _) (by decide)) (gRecv hK hR (ci := 2) rfl hk) hdg kk
  | 3, _ => exact va_instNo (C := "RidCoppers$Keeper") hexec hb hown (hts _ hl) (hK.2.2.2.2.2.2.2 (_, _) (by decide)) (gRecv hK hR (ci := 3) rfl hk) hdg kk
  | 4, _ => exact va_instNo (C := "RidCoppers$Light") hexec hb hown (hts _ hl) (hK.2.2.2.2.2.2.2 (_, _) (by decide)) (gRecv hK hR (ci := 4) rfl hk) hdg kk
  | 5, _ => exact va_instNo (C := "RidCoppers$Wild") hexec hb hown (hts _ hl) (hK.2.2.2.2.2.2.2 (_, _) (by decide)) (gRecv hK hR (ci := 5) rfl hk) hdg kk
  | 6, _ => exact va_instS hexec hb hown (hts _ hl) (gAtP hK (ci := 6) rfl) (gRecv hK hR (ci := 6) rfl hk) hdg kk
  | ci + 7, h => exact absurd h (by omega)
end ROWS6
theorem nr_n {β : Type} {z : Option β} {f : Nat → Option β} {r : β} (h : nr none z f = some r) : z = some r := h
theorem nr_s {β : Type} {x : Nat} {z : Option β} {f : Nat → Option β} {r : β} (h : nr (some x) z f = some r) : f x = some r := h
theorem rr_n {β : Type} {f : Nat → Option β} {r : β} (h : rr none f = some r) : False := by cases h
theorem rr_s {β : Type} {x : Nat} {f : Nat → Option β} {r : β} (h : rr (some x) f = some r) : f x = some r := h
