variable {p : Program} {l : Launch} {e : Env} {s : State} {m : MethodId} {args : Array Value} {below : List Frame} {meth : Method} {c : Code} {D : va_G} {cA : Nat → ClassId} {oc : gO} {B N : Nat}
theorem d_P_init_0 : decode b_P_init 0 = .ok (.aload_n 0, 1) := by decide +kernel
theorem d_P_init_1 : decode b_P_init 1 = .ok (.invokespecial 1, 3) := by decide +kernel
theorem d_P_init_4 : decode b_P_init 4 = .ok (.aload_n 0, 1) := by decide +kernel
theorem d_P_init_5 : decode b_P_init 5 = .ok (.iload_n 1, 1) := by decide +kernel
theorem d_P_init_6 : decode b_P_init 6 = .ok (.putfield 7, 3) := by decide +kernel
theorem d_P_init_9 : decode b_P_init 9 = .ok (.aload_n 0, 1) := by decide +kernel
theorem d_P_init_10 : decode b_P_init 10 = .ok (.iload_n 2, 1) := by decide +kernel
theorem d_P_init_11 : decode b_P_init 11 = .ok (.putfield 13, 3) := by decide +kernel
theorem d_P_init_14 : decode b_P_init 14 = .ok (.aload_n 0, 1) := by decide +kernel
theorem d_P_init_15 : decode b_P_init 15 = .ok (.iload_n 3, 1) := by decide +kernel
theorem d_P_init_16 : decode b_P_init 16 = .ok (.putfield 16, 3) := by decide +kernel
theorem d_P_init_19 : decode b_P_init 19 = .ok (.return_, 1) := by decide +kernel
set_option maxRecDepth 20000 in
theorem c_P_init_b0 {r : Unit} {wz : gW} (C : gC p s m args meth c "RidCoppers$Payer" b_P_init 4 none D cA oc B) (hin : meth.name = "<init>") (a0 : Nat) (a1 : Int32) (a2 : Int32) (a3 : Int32) (w : gW) {ls : Array Slot} {H : Heap} {locs : List Loc} (hl : lv_has ls 4 [(0, .ref (B + a0)), (1, .int a1), (2, .int a2), (3, .int a3)]) (hf : f_P_init_b0 N a0 a1 a2 a3 w = some (r, wz)) (hR : gRep D cA B w H) (hS : va_S (gA B) s.heap H locs) : W p l e ({ frames := 1, cells := 0, slots := 0, locals := 60 } : Room) s m args below meth c H locs 0 0 (MQ below (gQv D cA B r wz) args s 0 0 (gA B)) (F0 m 0 ls []) := by
  obtain ⟨hx, hb, hml, hown, hts, hr, hlocks, hK, hBs⟩ := id C
  unfold f_P_init_b0 at hf
  refine lv_aload_n hx hb d_P_init_0 rfl (lv_at hl 0 rfl) ?_
  refine W.objInit hx hb hown (hts _ m_289) (hts _ m_28) (hts _ m_29) rfl (by rw [hml]; exact hl.1) rfl d_P_init_1 (Nat.le_of_ble_eq_true rfl) (Nat.le_of_ble_eq_true rfl) ?_
  refine W.eq (g2 := F0 m 4 ls []) rfl ?_
  refine lv_aload_n hx hb d_P_init_4 rfl (lv_at hl 0 rfl) ?_
  refine lv_iload_n hx hb d_P_init_5 rfl (lv_at hl 1 rfl) ?_
  have ⟨h1, hf⟩ := gd_e hf
  refine g_putFI hx hb hts hown hK hR hS (pf_P_7P _ h1) hin (payv h1) (payn h1) (payf h1) rfl d_P_init_6 (fun H locs hR hS => ?_)
  refine g_nW hf hR (fun w2 hf hR => ?_)
  refine lv_aload_n hx hb d_P_init_9 rfl (lv_at hl 0 rfl) ?_
  refine lv_iload_n hx hb d_P_init_10 rfl (lv_at hl 2 rfl) ?_
  have ⟨h3, hf⟩ := gd_e hf
  refine g_putFI hx hb hts hown hK hR hS (pf_P_13P _ h3) hin (payv h3) (payn h3) (payf h3) rfl d_P_init_11 (fun H locs hR hS => ?_)
  refine g_nW hf hR (fun w4 hf hR => ?_)
  refine lv_aload_n hx hb d_P_init_14 rfl (lv_at hl 0 rfl) ?_
  refine lv_iload_n hx hb d_P_init_15 rfl (lv_at hl 3 rfl) ?_
  have ⟨h5, hf⟩ := gd_e hf
  refine g_putFI hx hb hts hown hK hR hS (pf_P_16P _ h5) hin (payv h5) (payn h5) (payf h5) rfl d_P_init_16 (fun H locs hR hS => ?_)
  refine g_nW hf hR (fun w6 hf hR => ?_)
  exact g_vret hx hb hr hlocks hR hS hf d_P_init_19
theorem c_P_init (l : Launch) (D : va_G) (cA : Nat → ClassId) (oc : gO) (B N : Nat) (a0 : Nat) (a1 : Int32) (a2 : Int32) (a3 : Int32) (w : gW) {wz : gW} {r : Unit} (hf : f_P_init N a0 a1 a2 a3 w = some (r, wz)) : Met l y_P_init (Cond.code y_P_init b_P_init 4 none :: lw_good) ({ frames := 1, cells := 0, slots := 0, locals := 60 } : Room) (gPre D cA oc B [.ref (B + a0), .int a1, .int a2, .int a3] w) (gQv D cA B r wz) 0 0 (gA B) := by
  refine Met.ofW (cc := b_P_init) (maxL := 4) (ret := none) (by decide +kernel) rfl ?_
  intro p e s m args below meth c s₁ Bd hml hv
  obtain ⟨hargs, C, hR⟩ := gC.enter (l := l) rfl Bd hml hv
  have hin : meth.name = "<init>" := (name_of_methodNamed Bd.named Bd.method).1
  subst hargs
  have hl := lv_entry ([.ref (B + a0), .int a1, .int a2, .int a3]) (n := 4) (Nat.le_of_ble_eq_true rfl)
  rw [lg_entry_eq]
  generalize (lg_sl ([.ref (B + a0), .int a1, .int a2, .int a3]) ++ List.replicate (4 - (lg_sl ([.ref (B + a0), .int a1, .int a2, .int a3])).length) Slot.unset).toArray = ls at hl ⊢
  have hl : lv_has ls 4 [(0, .ref (B + a0)), (1, .int a1), (2, .int a2), (3, .int a3)] := hl
  exact c_P_init_b0 C hin a0 a1 a2 a3 w (lv_sub hl [0, 1, 2, 3] rfl) hf hR va_S.rf
theorem d_E_init_0 : decode b_E_init 0 = .ok (.aload_n 0, 1) := by decide +kernel
theorem d_E_init_1 : decode b_E_init 1 = .ok (.iload_n 1, 1) := by decide +kernel
theorem d_E_init_2 : decode b_E_init 2 = .ok (.iload_n 2, 1) := by decide +kernel
theorem d_E_init_3 : decode b_E_init 3 = .ok (.iload_n 3, 1) := by decide +kernel
theorem d_E_init_4 : decode b_E_init 4 = .ok (.invokespecial 1, 3) := by decide +kernel
theorem d_E_init_7 : decode b_E_init 7 = .ok (.return_, 1) := by decide +kernel
set_option maxRecDepth 20000 in
theorem c_E_init_b0 {r : Unit} {wz : gW} (C : gC p s m args meth c "RidCoppers$Exact" b_E_init 4 none D cA oc B) (hin : meth.name = "<init>") (a0 : Nat) (a1 : Int32) (a2 : Int32) (a3 : Int32) (w : gW) {ls : Array Slot} {H : Heap} {locs : List Loc} (hl : lv_has ls 4 [(0, .ref (B + a0)), (1, .int a1), (2, .int a2), (3, .int a3)]) (hf : f_E_init_b0 N a0 a1 a2 a3 w = some (r, wz)) (hR : gRep D cA B w H) (hS : va_S (gA B) s.heap H locs) : W p l e ({ frames := 2, cells := 0, slots := 0, locals := 83 } : Room) s m args below meth c H locs 0 0 (MQ below (gQv D cA B r wz) args s 0 0 (gA B)) (F0 m 0 ls []) := by
  obtain ⟨hx, hb, hml, hown, hts, hr, hlocks, hK, hBs⟩ := id C
  unfold f_E_init_b0 at hf
  refine lv_aload_n hx hb d_E_init_0 rfl (lv_at hl 0 rfl) ?_
  refine lv_iload_n hx hb d_E_init_1 rfl (lv_at hl 1 rfl) ?_
  refine lv_iload_n hx hb d_E_init_2 rfl (lv_at hl 2 rfl) ?_
  refine lv_iload_n hx hb d_E_init_3 rfl (lv_at hl 3 rfl) ?_
  have ⟨h4, hf⟩ := gd_e hf
  have ⟨x1, w2, h3, hf⟩ := kl_e hf
  refine g_kv0 (g_rI (As := [.int a1, .int a2, .int a3]) (rest := []) hx hb hml hown hts hK hR hS (c_P_init l D cA oc B N a0 a1 a2 a3 w h3) I_P_init rfl m_286 rfl rfl (Nat.le_of_ble_eq_true rfl) hl.1 ⟨Nat.le_of_ble_eq_true rfl, Nat.le_of_ble_eq_true rfl⟩ ⟨Nat.le_of_ble_eq_true rfl, Nat.le_of_ble_eq_true rfl⟩ d_E_init_4) hS (fun H locs hR hS => ?_)
  exact g_vret hx hb hr hlocks hR hS hf d_E_init_7
theorem c_E_init (l : Launch) (D : va_G) (cA : Nat → ClassId) (oc : gO) (B N : Nat) (a0 : Nat) (a1 : Int32) (a2 : Int32) (a3 : Int32) (w : gW) {wz : gW} {r : Unit} (hf : f_E_init N a0 a1 a2 a3 w = some (r, wz)) : Met l y_E_init (Cond.code y_E_init b_E_init 4 none :: lw_good) ({ frames := 2, cells := 0, slots := 0, locals := 83 } : Room) (gPre D cA oc B [.ref (B + a0), .int a1, .int a2, .int a3] w) (gQv D cA B r wz) 0 0 (gA B) := by
  refine Met.ofW (cc := b_E_init) (maxL := 4) (ret := none) (by decide +kernel) rfl ?_
  intro p e s m args below meth c s₁ Bd hml hv
  obtain ⟨hargs, C, hR⟩ := gC.enter (l := l) rfl Bd hml hv
  have hin : meth.name = "<init>" := (name_of_methodNamed Bd.named Bd.method).1
  subst hargs
  have hl := lv_entry ([.ref (B + a0), .int a1, .int a2, .int a3]) (n := 4) (Nat.le_of_ble_eq_true rfl)
  rw [lg_entry_eq]
  generalize (lg_sl ([.ref (B + a0), .int a1, .int a2, .int a3]) ++ List.replicate (4 - (lg_sl ([.ref (B + a0), .int a1, .int a2, .int a3])).length) Slot.unset).toArray = ls at hl ⊢
  have hl : lv_has ls 4 [(0, .ref (B + a0)), (1, .int a1), (2, .int a2), (3, .int a3)] := hl
  exact c_E_init_b0 C hin a0 a1 a2 a3 w (lv_sub hl [0, 1, 2, 3] rfl) hf hR va_S.rf
theorem d_P_ranked_0 : decode b_P_ranked 0 = .ok (.iload_n 0, 1) := by decide +kernel
theorem d_P_ranked_1 : decode b_P_ranked 1 = .ok (.i2l, 1) := by decide +kernel
theorem d_P_ranked_2 : decode b_P_ranked 2 = .ok (.ldc2_w 31, 3) := by decide +kernel
theorem d_P_ranked_5 : decode b_P_ranked 5 = .ok (.lmul, 1) := by decide +kernel
theorem d_P_ranked_6 : decode b_P_ranked 6 = .ok (.iload_n 1, 1) := by decide +kernel
theorem d_P_ranked_7 : decode b_P_ranked 7 = .ok (.i2l, 1) := by decide +kernel
theorem d_P_ranked_8 : decode b_P_ranked 8 = .ok (.ladd, 1) := by decide +kernel
theorem d_P_ranked_9 : decode b_P_ranked 9 = .ok (.lreturn, 1) := by decide +kernel
set_option maxRecDepth 20000 in
theorem c_P_ranked_b0 {r : Int64} {wz : gW} (C : gC p s m args meth c "RidCoppers$Payer" b_P_ranked 2 (some .long) D cA oc B) (a0 : Int32) (a1 : Int32) (w : gW) {ls : Array Slot} {H : Heap} {locs : List Loc} (hl : lv_has ls 2 [(0, .int a0), (1, .int a1)]) (hf : f_P_ranked_b0 N a0 a1 w = some (r, wz)) (hR : gRep D cA B w H) (hS : va_S (gA B) s.heap H locs) : W p l e ({ frames := 1, cells := 0, slots := 0, locals := 40 } : Room) s m args below meth c H locs 0 0 (MQ below (gQl D cA B r wz) args s 0 0 (gA B)) (F0 m 0 ls []) := by
  obtain ⟨hx, hb, hml, hown, hts, hr, hlocks, hK, hBs⟩ := id C
  unfold f_P_ranked_b0 at hf
  refine lv_iload_n hx hb d_P_ranked_0 rfl (lv_at hl 0 rfl) ?_
  refine lv_i2l hx hb d_P_ranked_1 rfl ?_
  refine g_nL hf (fun x1 hf => ?_)
  refine lv_ldc2 hx hb hown (hts _ m_669) d_P_ranked_2 ?_
  refine lv_lmul hx hb d_P_ranked_5 ?_
  refine g_nL hf (fun x2 hf => ?_)
  refine lv_iload_n hx hb d_P_ranked_6 rfl (lv_at hl 1 rfl) ?_
  refine lv_i2l hx hb d_P_ranked_7 rfl ?_
  refine g_nL hf (fun x3 hf => ?_)
  refine lv_ladd hx hb d_P_ranked_8 ?_
  refine g_nL hf (fun x4 hf => ?_)
  exact g_lret hx hb hr hlocks hR hS hf d_P_ranked_9
theorem c_P_ranked (l : Launch) (D : va_G) (cA : Nat → ClassId) (oc : gO) (B N : Nat) (a0 : Int32) (a1 : Int32) (w : gW) {wz : gW} {r : Int64} (hf : f_P_ranked N a0 a1 w = some (r, wz)) : Met l y_P_ranked (Cond.code y_P_ranked b_P_ranked 2 (some .long) :: lw_good) ({ frames := 1, cells := 0, slots := 0, locals := 40 } : Room) (gPre D cA oc B [.int a0, .int a1] w) (gQl D cA B r wz) 0 0 (gA B) := by
  refine Met.ofW (cc := b_P_ranked) (maxL := 2) (ret := (some .long)) (by decide +kernel) rfl ?_
  intro p e s m args below meth c s₁ Bd hml hv
  obtain ⟨hargs, C, hR⟩ := gC.enter (l := l) rfl Bd hml hv
  subst hargs
  have hl := lv_entry ([.int a0, .int a1]) (n := 2) (Nat.le_of_ble_eq_true rfl)
  rw [lg_entry_eq]
  generalize (lg_sl ([.int a0, .int a1]) ++ List.replicate (2 - (lg_sl ([.int a0, .int a1])).length) Slot.unset).toArray = ls at hl ⊢
  have hl : lv_has ls 2 [(0, .int a0), (1, .int a1)] := hl
  exact c_P_ranked_b0 C a0 a1 w (lv_sub hl [0, 1] rfl) hf hR va_S.rf
theorem d_E_rank_0 : decode b_E_rank 0 = .ok (.aload_n 1, 1) := by decide +kernel
theorem d_E_rank_1 : decode b_E_rank 1 = .ok (.getfield 7, 3) := by decide +kernel
theorem d_E_rank_4 : decode b_E_rank 4 = .ok (.aload_n 1, 1) := by decide +kernel
theorem d_E_rank_5 : decode b_E_rank 5 = .ok (.getfield 7, 3) := by decide +kernel
theorem d_E_rank_8 : decode b_E_rank 8 = .ok (.aload_n 1, 1) := by decide +kernel
theorem d_E_rank_9 : decode b_E_rank 9 = .ok (.getfield 13, 3) := by decide +kernel
theorem d_E_rank_12 : decode b_E_rank 12 = .ok (.if_icmp .ne 11, 3) := by decide +kernel
theorem d_E_rank_15 : decode b_E_rank 15 = .ok (.aload_n 1, 1) := by decide +kernel
theorem d_E_rank_16 : decode b_E_rank 16 = .ok (.getfield 16, 3) := by decide +kernel
theorem d_E_rank_19 : decode b_E_rank 19 = .ok (.ineg, 1) := by decide +kernel
theorem d_E_rank_20 : decode b_E_rank 20 = .ok (.goto 7, 3) := by decide +kernel
theorem d_E_rank_23 : decode b_E_rank 23 = .ok (.aload_n 1, 1) := by decide +kernel
theorem d_E_rank_24 : decode b_E_rank 24 = .ok (.getfield 16, 3) := by decide +kernel
theorem d_E_rank_27 : decode b_E_rank 27 = .ok (.invokestatic 19, 3) := by decide +kernel
theorem d_E_rank_30 : decode b_E_rank 30 = .ok (.lreturn, 1) := by decide +kernel
set_option maxRecDepth 20000 in
theorem c_E_rank_b27 {r : Int64} {wz : gW} (C : gC p s m args meth c "RidCoppers$Exact" b_E_rank 2 (some .long) D cA oc B) (z0 : Int32) (z1 : Int32) (w : gW) {ls : Array Slot} {H : Heap} {locs : List Loc} (hl : lv_has ls 2 []) (hf : f_E_rank_b27 N z0 z1 w = some (r, wz)) (hR : gRep D cA B w H) (hS : va_S (gA B) s.heap H locs) : W p l e ({ frames := 2, cells := 0, slots := 0, locals := 61 } : Room) s m args below meth c H locs 0 0 (MQ below (gQl D cA B r wz) args s 0 0 (gA B)) (F0 m 27 ls [.int z0, .int z1]) := by
  obtain ⟨hx, hb, hml, hown, hts, hr, hlocks, hK, hBs⟩ := id C
  unfold f_E_rank_b27 at hf
  have ⟨x6, w7, h8, hf⟩ := kl_e hf
  refine g_kl0 (g_rSX0 (x := ⟨"RidCoppers$Exact", "ranked", "(II)J"⟩) (owner := "RidCoppers$Payer") (As := [.int z1, .int z0]) (rest := []) hx hb hml hown hts hK hR hS (c_P_ranked l D cA oc B N z1 z0 w h8) I_P_ranked m_665 m_666 rfl rfl (Nat.le_of_ble_eq_true rfl) hl.1 ⟨Nat.le_of_ble_eq_true rfl, Nat.le_of_ble_eq_true rfl⟩ ⟨Nat.le_of_ble_eq_true rfl, Nat.le_of_ble_eq_true rfl⟩ d_E_rank_27) hS (fun H locs hR hS => ?_)
  exact g_lret hx hb hr hlocks hR hS hf d_E_rank_30
set_option maxRecDepth 20000 in
theorem c_E_rank_b0 {r : Int64} {wz : gW} (C : gC p s m args meth c "RidCoppers$Exact" b_E_rank 2 (some .long) D cA oc B) (a1 : Nat) (w : gW) {ls : Array Slot} {H : Heap} {locs : List Loc} (hl : lv_has ls 2 [(1, .ref (B + a1))]) (hf : f_E_rank_b0 N a1 w = some (r, wz)) (hR : gRep D cA B w H) (hS : va_S (gA B) s.heap H locs) : W p l e ({ frames := 2, cells := 0, slots := 0, locals := 61 } : Room) s m args below meth c H locs 0 0 (MQ below (gQl D cA B r wz) args s 0 0 (gA B)) (F0 m 0 ls []) := by
  obtain ⟨hx, hb, hml, hown, hts, hr, hlocks, hK, hBs⟩ := id C
  unfold f_E_rank_b0 at hf
  refine lv_aload_n hx hb d_E_rank_0 rfl (lv_at hl 0 rfl) ?_
  have ⟨h1, hf⟩ := gd_e hf
  refine g_getI hx hb hts hown hK hR fl_E_7 (fun _ => rfl) h1 d_E_rank_1 ?_
  refine g_nI hf (fun x2 hf => ?_)
  refine lv_aload_n hx hb d_E_rank_4 rfl (lv_at hl 0 rfl) ?_
  refine g_getI hx hb hts hown hK hR fl_E_7 (fun _ => rfl) h1 d_E_rank_5 ?_
  refine g_nI hf (fun x3 hf => ?_)
  refine lv_aload_n hx hb d_E_rank_8 rfl (lv_at hl 0 rfl) ?_
  refine g_getI hx hb hts hown hK hR fl_E_13 (fun _ => rfl) h1 d_E_rank_9 ?_
  refine g_nI hf (fun x4 hf => ?_)
  refine lv_icmp_ne (tgt := 23) hx hb d_E_rank_12 (by decide) (fun hc => ?_) (fun hc => ?_)
  · have hf := cd_f hc hf
    refine lv_aload_n hx hb d_E_rank_23 rfl (lv_at hl 0 rfl) ?_
    refine g_getI hx hb hts hown hK hR fl_E_16 (fun _ => rfl) h1 d_E_rank_24 ?_
    refine g_nI hf (fun x5 hf => ?_)
    exact c_E_rank_b27 C x5 x2 w (lv_sub hl [] rfl) hf hR hS
  have hf := cd_t hc hf
  refine lv_aload_n hx hb d_E_rank_15 rfl (lv_at hl 0 rfl) ?_
  refine g_getI hx hb hts hown hK hR fl_E_16 (fun _ => rfl) h1 d_E_rank_16 ?_
  refine g_nI hf (fun x9 hf => ?_)
  refine lv_ineg hx hb d_E_rank_19 ?_
  refine g_nI hf (fun x10 hf => ?_)
  refine lv_goto (tgt := 27) hx hb d_E_rank_20 (by decide) ?_
  exact c_E_rank_b27 C x10 x2 w (lv_sub hl [] rfl) hf hR hS
theorem c_E_rank (l : Launch) (D : va_G) (cA : Nat → ClassId) (oc : gO) (B N : Nat) (a0 : Nat) (a1 : Nat) (w : gW) {wz : gW} {r : Int64} (hf : f_E_rank N a0 a1 w = some (r, wz)) : Met l y_E_rank (Cond.code y_E_rank b_E_rank 2 (some .long) :: lw_good) ({ frames := 2, cells := 0, slots := 0, locals := 61 } : Room) (gPre D cA oc B [.ref (B + a0), .ref (B + a1)] w) (gQl D cA B r wz) 0 0 (gA B) := by
  refine Met.ofW (cc := b_E_rank) (maxL := 2) (ret := (some .long)) (by decide +kernel) rfl ?_
  intro p e s m args below meth c s₁ Bd hml hv
  obtain ⟨hargs, C, hR⟩ := gC.enter (l := l) rfl Bd hml hv
  subst hargs
  have hl := lv_entry ([.ref (B + a0), .ref (B + a1)]) (n := 2) (Nat.le_of_ble_eq_true rfl)
  rw [lg_entry_eq]
  generalize (lg_sl ([.ref (B + a0), .ref (B + a1)]) ++ List.replicate (2 - (lg_sl ([.ref (B + a0), .ref (B + a1)])).length) Slot.unset).toArray = ls at hl ⊢
  have hl : lv_has ls 2 [(0, .ref (B + a0)), (1, .ref (B + a1))] := hl
  exact c_E_rank_b0 C a1 w (lv_sub hl [1] rfl) hf hR va_S.rf
theorem d_P_counts_0 : decode b_P_counts 0 = .ok (.aload_n 2, 1) := by decide +kernel
theorem d_P_counts_1 : decode b_P_counts 1 = .ok (.bipush 10, 2) := by decide +kernel
theorem d_P_counts_3 : decode b_P_counts 3 = .ok (.invokevirtual 33, 3) := by decide +kernel
theorem d_P_counts_6 : decode b_P_counts 6 = .ok (.iload_n 1, 1) := by decide +kernel
theorem d_P_counts_7 : decode b_P_counts 7 = .ok (.aload_n 0, 1) := by decide +kernel
theorem d_P_counts_8 : decode b_P_counts 8 = .ok (.getfield 13, 3) := by decide +kernel
theorem d_P_counts_11 : decode b_P_counts 11 = .ok (.iadd, 1) := by decide +kernel
theorem d_P_counts_12 : decode b_P_counts 12 = .ok (.ireturn, 1) := by decide +kernel
set_option maxRecDepth 20000 in
theorem c_P_counts_b0 {r : Int32} {wz : gW} (C : gC p s m args meth c "RidCoppers$Payer" b_P_counts 3 (some .int) D cA oc B) (a0 : Nat) (a1 : Int32) (a2 : Nat) (w : gW) {ls : Array Slot} {H : Heap} {locs : List Loc} (hl : lv_has ls 3 [(0, .ref (B + a0)), (1, .int a1), (2, .ref (B + a2))]) (hf : f_P_counts_b0 N a0 a1 a2 w = some (r, wz)) (hR : gRep D cA B w H) (hS : va_S (gA B) s.heap H locs) : W p l e ({ frames := 2, cells := 0, slots := 0, locals := 61 } : Room) s m args below meth c H locs 0 0 (MQ below (gQi D cA B r wz) args s 0 0 (gA B)) (F0 m 0 ls []) := by
  obtain ⟨hx, hb, hml, hown, hts, hr, hlocks, hK, hBs⟩ := id C
  unfold f_P_counts_b0 at hf
  refine lv_aload_n hx hb d_P_counts_0 rfl (lv_at hl 2 rfl) ?_
  refine lv_bipush (v := 10) hx hb d_P_counts_1 (by decide) ?_
  have ⟨h4, hf⟩ := gd_e hf
  have ⟨x1, w2, h3, hf⟩ := kl_e hf
  refine g_kv0 (g_rV (As := [.int 10]) (rest := []) hx hb hml hown hts hK hR hS (c_Tr_begins l D cA oc B N a2 10 w h3) I_Tr_begins m_888 m_870 (gRecv hK hR (ci := 8) rfl h4) rfl rfl (Nat.le_of_ble_eq_true rfl) hl.1 ⟨Nat.le_of_ble_eq_true rfl, Nat.le_of_ble_eq_true rfl⟩ ⟨Nat.le_of_ble_eq_true rfl, Nat.le_of_ble_eq_true rfl⟩ d_P_counts_3) hS (fun H locs hR hS => ?_)
  refine lv_iload_n hx hb d_P_counts_6 rfl (lv_at hl 1 rfl) ?_
  refine lv_aload_n hx hb d_P_counts_7 rfl (lv_at hl 0 rfl) ?_
  have ⟨h5, hf⟩ := gd_e hf
  refine g_getI hx hb hts hown hK hR (flP_P_13 _ h5) (payv h5) rfl d_P_counts_8 ?_
  refine g_nI hf (fun x6 hf => ?_)
  refine lv_iadd hx hb d_P_counts_11 ?_
  refine g_nI hf (fun x7 hf => ?_)
  exact g_iret hx hb hr hlocks hR hS hf rfl d_P_counts_12
theorem c_P_counts (l : Launch) (D : va_G) (cA : Nat → ClassId) (oc : gO) (B N : Nat) (a0 : Nat) (a1 : Int32) (a2 : Nat) (w : gW) {wz : gW} {r : Int32} (hf : f_P_counts N a0 a1 a2 w = some (r, wz)) : Met l y_P_counts (Cond.code y_P_counts b_P_counts 3 (some .int) :: lw_good) ({ frames := 2, cells := 0, slots := 0, locals := 61 } : Room) (gPre D cA oc B [.ref (B + a0), .int a1, .ref (B + a2)] w) (gQi D cA B r wz) 0 0 (gA B) := by
  refine Met.ofW (cc := b_P_counts) (maxL := 3) (ret := (some .int)) (by decide +kernel) rfl ?_
  intro p e s m args below meth c s₁ Bd hml hv
  obtain ⟨hargs, C, hR⟩ := gC.enter (l := l) rfl Bd hml hv
  subst hargs
  have hl := lv_entry ([.ref (B + a0), .int a1, .ref (B + a2)]) (n := 3) (Nat.le_of_ble_eq_true rfl)
  rw [lg_entry_eq]
  generalize (lg_sl ([.ref (B + a0), .int a1, .ref (B + a2)]) ++ List.replicate (3 - (lg_sl ([.ref (B + a0), .int a1, .ref (B + a2)])).length) Slot.unset).toArray = ls at hl ⊢
  have hl : lv_has ls 3 [(0, .ref (B + a0)), (1, .int a1), (2, .ref (B + a2))] := hl
  exact c_P_counts_b0 C a0 a1 a2 w (lv_sub hl [0, 1, 2] rfl) hf hR va_S.rf
theorem d_Li_counts_0 : decode b_Li_counts 0 = .ok (.aload_n 2, 1) := by decide +kernel
theorem d_Li_counts_1 : decode b_Li_counts 1 = .ok (.bipush 50, 2) := by decide +kernel
theorem d_Li_counts_3 : decode b_Li_counts 3 = .ok (.invokevirtual 15, 3) := by decide +kernel
theorem d_Li_counts_6 : decode b_Li_counts 6 = .ok (.aload_n 0, 1) := by decide +kernel
theorem d_Li_counts_7 : decode b_Li_counts 7 = .ok (.iload_n 1, 1) := by decide +kernel
theorem d_Li_counts_8 : decode b_Li_counts 8 = .ok (.aload_n 2, 1) := by decide +kernel
theorem d_Li_counts_9 : decode b_Li_counts 9 = .ok (.invokespecial 21, 3) := by decide +kernel
theorem d_Li_counts_12 : decode b_Li_counts 12 = .ok (.ineg, 1) := by decide +kernel
theorem d_Li_counts_13 : decode b_Li_counts 13 = .ok (.ireturn, 1) := by decide +kernel
set_option maxRecDepth 20000 in
theorem c_Li_counts_b0 {r : Int32} {wz : gW} (C : gC p s m args meth c "RidCoppers$Light" b_Li_counts 3 (some .int) D cA oc B) (a0 : Nat) (a1 : Int32) (a2 : Nat) (w : gW) {ls : Array Slot} {H : Heap} {locs : List Loc} (hl : lv_has ls 3 [(0, .ref (B + a0)), (1, .int a1), (2, .ref (B + a2))]) (hf : f_Li_counts_b0 N a0 a1 a2 w = some (r, wz)) (hR : gRep D cA B w H) (hS : va_S (gA B) s.heap H locs) : W p l e ({ frames := 3, cells := 0, slots := 0, locals := 83 } : Room) s m args below meth c H locs 0 0 (MQ below (gQi D cA B r wz) args s 0 0 (gA B)) (F0 m 0 ls []) := by
  obtain ⟨hx, hb, hml, hown, hts, hr, hlocks, hK, hBs⟩ := id C
  unfold f_Li_counts_b0 at hf
  refine lv_aload_n hx hb d_Li_counts_0 rfl (lv_at hl 2 rfl) ?_
  refine lv_bipush (v := 50) hx hb d_Li_counts_1 (by decide) ?_
  have ⟨h4, hf⟩ := gd_e hf
  have ⟨x1, w2, h3, hf⟩ := kl_e hf
  refine g_kv0 (g_rV (As := [.int 50]) (rest := []) hx hb hml hown hts hK hR hS (c_Tr_begins l D cA oc B N a2 50 w h3) I_Tr_begins m_868 m_870 (gRecv hK hR (ci := 8) rfl h4) rfl rfl (Nat.le_of_ble_eq_true rfl) hl.1 ⟨Nat.le_of_ble_eq_true rfl, Nat.le_of_ble_eq_true rfl⟩ ⟨Nat.le_of_ble_eq_true rfl, Nat.le_of_ble_eq_true rfl⟩ d_Li_counts_3) hS (fun H locs hR hS => ?_)
  refine lv_aload_n hx hb d_Li_counts_6 rfl (lv_at hl 0 rfl) ?_
  refine lv_iload_n hx hb d_Li_counts_7 rfl (lv_at hl 1 rfl) ?_
  refine lv_aload_n hx hb d_Li_counts_8 rfl (lv_at hl 2 rfl) ?_
  have ⟨h8, hf⟩ := gd_e hf
  have ⟨x5, w6, h7, hf⟩ := kl_e hf
  have ⟨rc9, hr10, _⟩ := payl _ h8
  refine g_ki0 (g_rSUX0 (x := ⟨"RidCoppers$Exact", "counts", "(ILRidCoppers$Trace;)I"⟩) (owner := "RidCoppers$Payer") (As := [.int a1, .ref (B + a2)]) (rest := []) hx hb hml hown hts hK hR hS (c_P_counts l D cA oc B N a0 a1 a2 w2 h7) I_P_counts m_872 m_873 m_342 m_312 (by decide) hr10 rfl rfl rfl (Nat.le_of_ble_eq_true rfl) hl.1 ⟨Nat.le_of_ble_eq_true rfl, Nat.le_of_ble_eq_true rfl⟩ ⟨Nat.le_of_ble_eq_true rfl, Nat.le_of_ble_eq_true rfl⟩ d_Li_counts_9) hS (fun H locs hR hS => ?_)
  refine lv_ineg hx hb d_Li_counts_12 ?_
  refine g_nI hf (fun x11 hf => ?_)
  exact g_iret hx hb hr hlocks hR hS hf rfl d_Li_counts_13
theorem c_Li_counts (l : Launch) (D : va_G) (cA : Nat → ClassId) (oc : gO) (B N : Nat) (a0 : Nat) (a1 : Int32) (a2 : Nat) (w : gW) {wz : gW} {r : Int32} (hf : f_Li_counts N a0 a1 a2 w = some (r, wz)) : Met l y_Li_counts (Cond.code y_Li_counts b_Li_counts 3 (some .int) :: lw_good) ({ frames := 3, cells := 0, slots := 0, locals := 83 } : Room) (gPre D cA oc B [.ref (B + a0), .int a1, .ref (B + a2)] w) (gQi D cA B r wz) 0 0 (gA B) := by
  refine Met.ofW (cc := b_Li_counts) (maxL := 3) (ret := (some .int)) (by decide +kernel) rfl ?_
  intro p e s m args below meth c s₁ Bd hml hv
  obtain ⟨hargs, C, hR⟩ := gC.enter (l := l) rfl Bd hml hv
  subst hargs
  have hl := lv_entry ([.ref (B + a0), .int a1, .ref (B + a2)]) (n := 3) (Nat.le_of_ble_eq_true rfl)
  rw [lg_entry_eq]
  generalize (lg_sl ([.ref (B + a0), .int a1, .ref (B + a2)]) ++ List.replicate (3 - (lg_sl ([.ref (B + a0), .int a1, .ref (B + a2)])).length) Slot.unset).toArray = ls at hl ⊢
  have hl : lv_has ls 3 [(0, .ref (B + a0)), (1, .int a1), (2, .ref (B + a2))] := hl
  exact c_Li_counts_b0 C a0 a1 a2 w (lv_sub hl [0, 1, 2] rfl) hf hR va_S.rf
theorem d_Ro_counts_0 : decode b_Ro_counts 0 = .ok (.aload_n 2, 1) := by decide +kernel
theorem d_Ro_counts_1 : decode b_Ro_counts 1 = .ok (.bipush 30, 2) := by decide +kernel
theorem d_Ro_counts_3 : decode b_Ro_counts 3 = .ok (.invokevirtual 22, 3) := by decide +kernel
theorem d_Ro_counts_6 : decode b_Ro_counts 6 = .ok (.aload_n 0, 1) := by decide +kernel
theorem d_Ro_counts_7 : decode b_Ro_counts 7 = .ok (.iload_n 1, 1) := by decide +kernel
theorem d_Ro_counts_8 : decode b_Ro_counts 8 = .ok (.iconst 3, 1) := by decide +kernel
theorem d_Ro_counts_9 : decode b_Ro_counts 9 = .ok (.imul, 1) := by decide +kernel
theorem d_Ro_counts_10 : decode b_Ro_counts 10 = .ok (.aload_n 2, 1) := by decide +kernel
theorem d_Ro_counts_11 : decode b_Ro_counts 11 = .ok (.invokespecial 28, 3) := by decide +kernel
theorem d_Ro_counts_14 : decode b_Ro_counts 14 = .ok (.ireturn, 1) := by decide +kernel
set_option maxRecDepth 20000 in
theorem c_Ro_counts_b0 {r : Int32} {wz : gW} (C : gC p s m args meth c "RidCoppers$Rough" b_Ro_counts 3 (some .int) D cA oc B) (a0 : Nat) (a1 : Int32) (a2 : Nat) (w : gW) {ls : Array Slot} {H : Heap} {locs : List Loc} (hl : lv_has ls 3 [(0, .ref (B + a0)), (1, .int a1), (2, .ref (B + a2))]) (hf : f_Ro_counts_b0 N a0 a1 a2 w = some (r, wz)) (hR : gRep D cA B w H) (hS : va_S (gA B) s.heap H locs) : W p l e ({ frames := 3, cells := 0, slots := 0, locals := 83 } : Room) s m args below meth c H locs 0 0 (MQ below (gQi D cA B r wz) args s 0 0 (gA B)) (F0 m 0 ls []) := by
  obtain ⟨hx, hb, hml, hown, hts, hr, hlocks, hK, hBs⟩ := id C
  unfold f_Ro_counts_b0 at hf
  refine lv_aload_n hx hb d_Ro_counts_0 rfl (lv_at hl 2 rfl) ?_
  refine lv_bipush (v := 30) hx hb d_Ro_counts_1 (by decide) ?_
  have ⟨h4, hf⟩ := gd_e hf
  have ⟨x1, w2, h3, hf⟩ := kl_e hf
  refine g_kv0 (g_rV (As := [.int 30]) (rest := []) hx hb hml hown hts hK hR hS (c_Tr_begins l D cA oc B N a2 30 w h3) I_Tr_begins m_878 m_870 (gRecv hK hR (ci := 8) rfl h4) rfl rfl (Nat.le_of_ble_eq_true rfl) hl.1 ⟨Nat.le_of_ble_eq_true rfl, Nat.le_of_ble_eq_true rfl⟩ ⟨Nat.le_of_ble_eq_true rfl, Nat.le_of_ble_eq_true rfl⟩ d_Ro_counts_3) hS (fun H locs hR hS => ?_)
  refine lv_aload_n hx hb d_Ro_counts_6 rfl (lv_at hl 0 rfl) ?_
  refine lv_iload_n hx hb d_Ro_counts_7 rfl (lv_at hl 1 rfl) ?_
  refine lv_iconst (v := 3) hx hb d_Ro_counts_8 (by decide) ?_
  refine lv_imul hx hb d_Ro_counts_9 ?_
  refine g_nI hf (fun x5 hf => ?_)
  refine lv_aload_n hx hb d_Ro_counts_10 rfl (lv_at hl 2 rfl) ?_
  have ⟨h9, hf⟩ := gd_e hf
  have ⟨x6, w7, h8, hf⟩ := kl_e hf
  have ⟨rc10, hr11, _⟩ := payl _ h9
  refine g_ki0 (g_rSU (As := [.int x5, .ref (B + a2)]) (rest := []) hx hb hml hown hts hK hR hS (c_P_counts l D cA oc B N a0 x5 a2 w2 h8) I_P_counts m_879 m_862 m_322 (by decide) hr11 rfl rfl rfl (Nat.le_of_ble_eq_true rfl) hl.1 ⟨Nat.le_of_ble_eq_true rfl, Nat.le_of_ble_eq_true rfl⟩ ⟨Nat.le_of_ble_eq_true rfl, Nat.le_of_ble_eq_true rfl⟩ d_Ro_counts_11) hS (fun H locs hR hS => ?_)
  exact g_iret hx hb hr hlocks hR hS hf rfl d_Ro_counts_14
theorem c_Ro_counts (l : Launch) (D : va_G) (cA : Nat → ClassId) (oc : gO) (B N : Nat) (a0 : Nat) (a1 : Int32) (a2 : Nat) (w : gW) {wz : gW} {r : Int32} (hf : f_Ro_counts N a0 a1 a2 w = some (r, wz)) : Met l y_Ro_counts (Cond.code y_Ro_counts b_Ro_counts 3 (some .int) :: lw_good) ({ frames := 3, cells := 0, slots := 0, locals := 83 } : Room) (gPre D cA oc B [.ref (B + a0), .int a1, .ref (B + a2)] w) (gQi D cA B r wz) 0 0 (gA B) := by
  refine Met.ofW (cc := b_Ro_counts) (maxL := 3) (ret := (some .int)) (by decide +kernel) rfl ?_
  intro p e s m args below meth c s₁ Bd hml hv
  obtain ⟨hargs, C, hR⟩ := gC.enter (l := l) rfl Bd hml hv
  subst hargs
  have hl := lv_entry ([.ref (B + a0), .int a1, .ref (B + a2)]) (n := 3) (Nat.le_of_ble_eq_true rfl)
  rw [lg_entry_eq]
  generalize (lg_sl ([.ref (B + a0), .int a1, .ref (B + a2)]) ++ List.replicate (3 - (lg_sl ([.ref (B + a0), .int a1, .ref (B + a2)])).length) Slot.unset).toArray = ls at hl ⊢
  have hl : lv_has ls 3 [(0, .ref (B + a0)), (1, .int a1), (2, .ref (B + a2))] := hl
  exact c_Ro_counts_b0 C a0 a1 a2 w (lv_sub hl [0, 1, 2] rfl) hf hR va_S.rf
theorem d_To_counts_0 : decode b_To_counts 0 = .ok (.aload_n 2, 1) := by decide +kernel
theorem d_To_counts_1 : decode b_To_counts 1 = .ok (.bipush 71, 2) := by decide +kernel
theorem d_To_counts_3 : decode b_To_counts 3 = .ok (.invokevirtual 25, 3) := by decide +kernel
theorem d_To_counts_6 : decode b_To_counts 6 = .ok (.aload_n 0, 1) := by decide +kernel
theorem d_To_counts_7 : decode b_To_counts 7 = .ok (.iload_n 1, 1) := by decide +kernel
theorem d_To_counts_8 : decode b_To_counts 8 = .ok (.aload_n 2, 1) := by decide +kernel
theorem d_To_counts_9 : decode b_To_counts 9 = .ok (.invokespecial 35, 3) := by decide +kernel
theorem d_To_counts_12 : decode b_To_counts 12 = .ok (.aload_n 0, 1) := by decide +kernel
theorem d_To_counts_13 : decode b_To_counts 13 = .ok (.getfield 38, 3) := by decide +kernel
theorem d_To_counts_16 : decode b_To_counts 16 = .ok (.ixor, 1) := by decide +kernel
theorem d_To_counts_17 : decode b_To_counts 17 = .ok (.ireturn, 1) := by decide +kernel
set_option maxRecDepth 20000 in
theorem c_To_counts_b0 {r : Int32} {wz : gW} (C : gC p s m args meth c "RidCoppers$Told" b_To_counts 3 (some .int) D cA oc B) (a0 : Nat) (a1 : Int32) (a2 : Nat) (w : gW) {ls : Array Slot} {H : Heap} {locs : List Loc} (hl : lv_has ls 3 [(0, .ref (B + a0)), (1, .int a1), (2, .ref (B + a2))]) (hf : f_To_counts_b0 N a0 a1 a2 w = some (r, wz)) (hR : gRep D cA B w H) (hS : va_S (gA B) s.heap H locs) : W p l e ({ frames := 3, cells := 0, slots := 0, locals := 83 } : Room) s m args below meth c H locs 0 0 (MQ below (gQi D cA B r wz) args s 0 0 (gA B)) (F0 m 0 ls []) := by
  obtain ⟨hx, hb, hml, hown, hts, hr, hlocks, hK, hBs⟩ := id C
  unfold f_To_counts_b0 at hf
  refine lv_aload_n hx hb d_To_counts_0 rfl (lv_at hl 2 rfl) ?_
  refine lv_bipush (v := 71) hx hb d_To_counts_1 (by decide) ?_
  have ⟨h4, hf⟩ := gd_e hf
  have ⟨x1, w2, h3, hf⟩ := kl_e hf
  refine g_kv0 (g_rV (As := [.int 71]) (rest := []) hx hb hml hown hts hK hR hS (c_Tr_begins l D cA oc B N a2 71 w h3) I_Tr_begins m_883 m_870 (gRecv hK hR (ci := 8) rfl h4) rfl rfl (Nat.le_of_ble_eq_true rfl) hl.1 ⟨Nat.le_of_ble_eq_true rfl, Nat.le_of_ble_eq_true rfl⟩ ⟨Nat.le_of_ble_eq_true rfl, Nat.le_of_ble_eq_true rfl⟩ d_To_counts_3) hS (fun H locs hR hS => ?_)
  refine lv_aload_n hx hb d_To_counts_6 rfl (lv_at hl 0 rfl) ?_
  refine lv_iload_n hx hb d_To_counts_7 rfl (lv_at hl 1 rfl) ?_
  refine lv_aload_n hx hb d_To_counts_8 rfl (lv_at hl 2 rfl) ?_
  have ⟨h8, hf⟩ := gd_e hf
  have ⟨x5, w6, h7, hf⟩ := kl_e hf
  have ⟨rc9, hr10, _⟩ := payl _ h8
  refine g_ki0 (g_rSUX0 (x := ⟨"RidCoppers$Keeper", "counts", "(ILRidCoppers$Trace;)I"⟩) (owner := "RidCoppers$Payer") (As := [.int a1, .ref (B + a2)]) (rest := []) hx hb hml hown hts hK hR hS (c_P_counts l D cA oc B N a0 a1 a2 w2 h7) I_P_counts m_884 m_885 m_362 m_332 (by decide) hr10 rfl rfl rfl (Nat.le_of_ble_eq_true rfl) hl.1 ⟨Nat.le_of_ble_eq_true rfl, Nat.le_of_ble_eq_true rfl⟩ ⟨Nat.le_of_ble_eq_true rfl, Nat.le_of_ble_eq_true rfl⟩ d_To_counts_9) hS (fun H locs hR hS => ?_)
  refine lv_aload_n hx hb d_To_counts_12 rfl (lv_at hl 0 rfl) ?_
  have ⟨h11, hf⟩ := gd_e hf
  refine g_getI hx hb hts hown hK hR (flP_To_38 _ h11) (payv h11) rfl d_To_counts_13 ?_
  refine g_nI hf (fun x12 hf => ?_)
  refine lv_ixor hx hb d_To_counts_16 ?_
  refine g_nI hf (fun x13 hf => ?_)
  exact g_iret hx hb hr hlocks hR hS hf rfl d_To_counts_17
theorem c_To_counts (l : Launch) (D : va_G) (cA : Nat → ClassId) (oc : gO) (B N : Nat) (a0 : Nat) (a1 : Int32) (a2 : Nat) (w : gW) {wz : gW} {r : Int32} (hf : f_To_counts N a0 a1 a2 w = some (r, wz)) : Met l y_To_counts (Cond.code y_To_counts b_To_counts 3 (some .int) :: lw_good) ({ frames := 3, cells := 0, slots := 0, locals := 83 } : Room) (gPre D cA oc B [.ref (B + a0), .int a1, .ref (B + a2)] w) (gQi D cA B r wz) 0 0 (gA B) := by
  refine Met.ofW (cc := b_To_counts) (maxL := 3) (ret := (some .int)) (by decide +kernel) rfl ?_
  intro p e s m args below meth c s₁ Bd hml hv
  obtain ⟨hargs, C, hR⟩ := gC.enter (l := l) rfl Bd hml hv
  subst hargs
  have hl := lv_entry ([.ref (B + a0), .int a1, .ref (B + a2)]) (n := 3) (Nat.le_of_ble_eq_true rfl)
  rw [lg_entry_eq]
  generalize (lg_sl ([.ref (B + a0), .int a1, .ref (B + a2)]) ++ List.replicate (3 - (lg_sl ([.ref (B + a0), .int a1, .ref (B + a2)])).length) Slot.unset).toArray = ls at hl ⊢
  have hl : lv_has ls 3 [(0, .ref (B + a0)), (1, .int a1), (2, .ref (B + a2))] := hl
  exact c_To_counts_b0 C a0 a1 a2 w (lv_sub hl [0, 1, 2] rfl) hf hR va_S.rf
theorem d_P_hands_0 : decode b_P_hands 0 = .ok (.aload_n 2, 1) := by decide +kernel
theorem d_P_hands_1 : decode b_P_hands 1 = .ok (.bipush 11, 2) := by decide +kernel
theorem d_P_hands_3 : decode b_P_hands 3 = .ok (.invokevirtual 33, 3) := by decide +kernel
theorem d_P_hands_6 : decode b_P_hands 6 = .ok (.aload_n 0, 1) := by decide +kernel
theorem d_P_hands_7 : decode b_P_hands 7 = .ok (.iload_n 1, 1) := by decide +kernel
theorem d_P_hands_8 : decode b_P_hands 8 = .ok (.aload_n 2, 1) := by decide +kernel
theorem d_P_hands_9 : decode b_P_hands 9 = .ok (.invokevirtual 39, 3) := by decide +kernel
theorem d_P_hands_12 : decode b_P_hands 12 = .ok (.aload_n 0, 1) := by decide +kernel
theorem d_P_hands_13 : decode b_P_hands 13 = .ok (.getfield 16, 3) := by decide +kernel
theorem d_P_hands_16 : decode b_P_hands 16 = .ok (.isub, 1) := by decide +kernel
theorem d_P_hands_17 : decode b_P_hands 17 = .ok (.ireturn, 1) := by decide +kernel
set_option maxRecDepth 20000 in
theorem g_rv_counts {R : Room} {H : Heap} {locs : List Loc} {cells slots idx nL a pc : Nat} {ls : Array Slot} {cc : ByteArray} {own : String} {w w1 : gW} {rest st0 : List Value} {a1 : Int32} {a2 : Nat} {x : Int32} (hexec : p.tables.exec = Jvm.exec) (hb : c.code = cc) (hml : c.maxLocals = nL) (hown : s.vm.findClass own = some m.cls) (hts : ∀ w ∈ lw_good, w.before args s = true) (hK : gK D cA oc B s s.heap) (hR : gRep D cA B w H) (hS : va_S (gA B) s.heap H locs) (hh : v_counts N a a1 a2 w = some (x, w1)) (hl : Cond.methodLink own idx y_P_counts ∈ lw_good) (hstack : st0 = .ref (B + a2) :: .int a1 :: .ref (B + a) :: rest) (hcat : (rest.map fun v => v.category).sum ≤ 8) (hsz : ls.size = nL) (hrm : 4 ≤ R.frames ∧ 105 ≤ R.locals) (hcs : cells ≤ R.cells ∧ slots ≤ R.slots) (hdg : decode cc pc = .ok (.invokevirtual idx, 3)) : va_Run p l e R s m args below meth c H locs cells slots 0 0 (F0 m pc ls st0) rest (gQi D cA B x w1 (Value.ref (B + a) :: [.int a1, .ref (B + a2)]).toArray) (gA B) := by
  unfold v_counts at hh
  by_cases h0 : (sh w a).1 = 0
  · have hh := cd_t h0 hh
    exact g_rU (As := [.int a1, .ref (B + a2)]) (rest := rest) (x := y_P_counts) (owner := "RidCoppers$Payer") (C := "RidCoppers$Payer") hexec hb hml hown hts hK hR hS (c_P_counts l D cA oc B N a a1 a2 w hh) I_P_counts hl m_862 m_860 m_887 m_861 (by decide) (by decide +kernel) (gRecv hK hR (ci := 0) rfl h0) rfl hstack hcat hsz ⟨Nat.le_trans (m := 4) (Nat.le_of_ble_eq_true rfl) hrm.1, Nat.le_trans (m := 105) (Nat.le_of_ble_eq_true rfl) hrm.2⟩ hcs hdg
  have hh := cd_f h0 hh
  by_cases h1 : (sh w a).1 = 1
  · have hh := cd_t h1 hh
    exact g_rU (As := [.int a1, .ref (B + a2)]) (rest := rest) (x := y_P_counts) (owner := "RidCoppers$Payer") (C := "RidCoppers$Exact") hexec hb hml hown hts hK hR hS (c_P_counts l D cA oc B N a a1 a2 w hh) I_P_counts hl m_862 m_860 m_887 m_863 (by decide) (by decide +kernel) (gRecv hK hR (ci := 1) rfl h1) rfl hstack hcat hsz ⟨Nat.le_trans (m := 4) (Nat.le_of_ble_eq_true rfl) hrm.1, Nat.le_trans (m := 105) (Nat.le_of_ble_eq_true rfl) hrm.2⟩ hcs hdg
  have hh := cd_f h1 hh
  by_cases h2 : (sh w a).1 = 2
  · have hh := cd_t h2 hh
    exact g_rU (As := [.int a1, .ref (B + a2)]) (rest := rest) (x := y_P_counts) (owner := "RidCoppers$Payer") (C := "RidCoppers$Rough") hexec hb hml hown hts hK hR hS (c_Ro_counts l D cA oc B N a a1 a2 w hh) I_Ro_counts hl m_862 m_860 m_887 m_875 (by decide) (by decide +kernel) (gRecv hK hR (ci := 2) rfl h2) rfl hstack hcat hsz ⟨Nat.le_trans (m := 4) (Nat.le_of_ble_eq_true rfl) hrm.1, Nat.le_trans (m := 105) (Nat.le_of_ble_eq_true rfl) hrm.2⟩ hcs hdg
  have hh := cd_f h2 hh
  by_cases h3 : (sh w a).1 = 3
  · have hh := cd_t h3 hh
    exact g_rU (As := [.int a1, .ref (B + a2)]) (rest := rest) (x := y_P_counts) (owner := "RidCoppers$Payer") (C := "RidCoppers$Keeper") hexec hb hml hown hts hK hR hS (c_P_counts l D cA oc B N a a1 a2 w hh) I_P_counts hl m_862 m_860 m_887 m_864 (by decide) (by decide +kernel) (gRecv hK hR (ci := 3) rfl h3) rfl hstack hcat hsz ⟨Nat.le_trans (m := 4) (Nat.le_of_ble_eq_true rfl) hrm.1, Nat.le_trans (m := 105) (Nat.le_of_ble_eq_true rfl) hrm.2⟩ hcs hdg
  have hh := cd_f h3 hh
  by_cases h4 : (sh w a).1 = 4
  · have hh := cd_t h4 hh
    exact g_rU (As := [.int a1, .ref (B + a2)]) (rest := rest) (x := y_P_counts) (owner := "RidCoppers$Payer") (C := "RidCoppers$Light") hexec hb hml hown hts hK hR hS (c_Li_counts l D cA oc B N a a1 a2 w hh) I_Li_counts hl m_862 m_860 m_887 m_865 (by decide) (by decide +kernel) (gRecv hK hR (ci := 4) rfl h4) rfl hstack hcat hsz ⟨Nat.le_trans (m := 4) (Nat.le_of_ble_eq_true rfl) hrm.1, Nat.le_trans (m := 105) (Nat.le_of_ble_eq_true rfl) hrm.2⟩ hcs hdg
  have hh := cd_f h4 hh
  by_cases h5 : (sh w a).1 = 5
  · have hh := cd_t h5 hh
    exact g_rU (As := [.int a1, .ref (B + a2)]) (rest := rest) (x := y_P_counts) (owner := "RidCoppers$Payer") (C := "RidCoppers$Wild") hexec hb hml hown hts hK hR hS (c_Ro_counts l D cA oc B N a a1 a2 w hh) I_Ro_counts hl m_862 m_860 m_887 m_886 (by decide) (by decide +kernel) (gRecv hK hR (ci := 5) rfl h5) rfl hstack hcat hsz ⟨Nat.le_trans (m := 4) (Nat.le_of_ble_eq_true rfl) hrm.1, Nat.le_trans (m := 105) (Nat.le_of_ble_eq_true rfl) hrm.2⟩ hcs hdg
  have hh := cd_f h5 hh
  by_cases h6 : (sh w a).1 = 6
  · have hh := cd_t h6 hh
    exact g_rU (As := [.int a1, .ref (B + a2)]) (rest := rest) (x := y_P_counts) (owner := "RidCoppers$Payer") (C := "RidCoppers$Told") hexec hb hml hown hts hK hR hS (c_To_counts l D cA oc B N a a1 a2 w hh) I_To_counts hl m_862 m_860 m_887 m_880 (by decide) (by decide +kernel) (gRecv hK hR (ci := 6) rfl h6) rfl hstack hcat hsz ⟨Nat.le_trans (m := 4) (Nat.le_of_ble_eq_true rfl) hrm.1, Nat.le_trans (m := 105) (Nat.le_of_ble_eq_true rfl) hrm.2⟩ hcs hdg
  have hh := cd_f h6 hh
  cases hh
set_option maxRecDepth 20000 in
theorem c_P_hands_b0 {r : Int32} {wz : gW} (C : gC p s m args meth c "RidCoppers$Payer" b_P_hands 3 (some .int) D cA oc B) (a0 : Nat) (a1 : Int32) (a2 : Nat) (w : gW) {ls : Array Slot} {H : Heap} {locs : List Loc} (hl : lv_has ls 3 [(0, .ref (B + a0)), (1, .int a1), (2, .ref (B + a2))]) (hf : f_P_hands_b0 N a0 a1 a2 w = some (r, wz)) (hR : gRep D cA B w H) (hS : va_S (gA B) s.heap H locs) : W p l e ({ frames := 4, cells := 0, slots := 0, locals := 105 } : Room) s m args below meth c H locs 0 0 (MQ below (gQi D cA B r wz) args s 0 0 (gA B)) (F0 m 0 ls []) := by
  obtain ⟨hx, hb, hml, hown, hts, hr, hlocks, hK, hBs⟩ := id C
  unfold f_P_hands_b0 at hf
  refine lv_aload_n hx hb d_P_hands_0 rfl (lv_at hl 2 rfl) ?_
  refine lv_bipush (v := 11) hx hb d_P_hands_1 (by decide) ?_
  have ⟨h4, hf⟩ := gd_e hf
  have ⟨x1, w2, h3, hf⟩ := kl_e hf
  refine g_kv0 (g_rV (As := [.int 11]) (rest := []) hx hb hml hown hts hK hR hS (c_Tr_begins l D cA oc B N a2 11 w h3) I_Tr_begins m_888 m_870 (gRecv hK hR (ci := 8) rfl h4) rfl rfl (Nat.le_of_ble_eq_true rfl) hl.1 ⟨Nat.le_of_ble_eq_true rfl, Nat.le_of_ble_eq_true rfl⟩ ⟨Nat.le_of_ble_eq_true rfl, Nat.le_of_ble_eq_true rfl⟩ d_P_hands_3) hS (fun H locs hR hS => ?_)
  refine lv_aload_n hx hb d_P_hands_6 rfl (lv_at hl 0 rfl) ?_
  refine lv_iload_n hx hb d_P_hands_7 rfl (lv_at hl 1 rfl) ?_
  refine lv_aload_n hx hb d_P_hands_8 rfl (lv_at hl 2 rfl) ?_
  have ⟨x5, w6, h7, hf⟩ := kl_e hf
  refine g_ki0 (g_rv_counts (rest := []) hx hb hml hown hts hK hR hS h7 m_912 rfl (Nat.le_of_ble_eq_true rfl) hl.1 ⟨Nat.le_of_ble_eq_true rfl, Nat.le_of_ble_eq_true rfl⟩ ⟨Nat.le_of_ble_eq_true rfl, Nat.le_of_ble_eq_true rfl⟩ d_P_hands_9) hS (fun H locs hR hS => ?_)
  refine lv_aload_n hx hb d_P_hands_12 rfl (lv_at hl 0 rfl) ?_
  have ⟨h8, hf⟩ := gd_e hf
  refine g_getI hx hb hts hown hK hR (flP_P_16 _ h8) (payv h8) rfl d_P_hands_13 ?_
  refine g_nI hf (fun x9 hf => ?_)
  refine lv_isub hx hb d_P_hands_16 ?_
  refine g_nI hf (fun x10 hf => ?_)
  exact g_iret hx hb hr hlocks hR hS hf rfl d_P_hands_17
theorem c_P_hands (l : Launch) (D : va_G) (cA : Nat → ClassId) (oc : gO) (B N : Nat) (a0 : Nat) (a1 : Int32) (a2 : Nat) (w : gW) {wz : gW} {r : Int32} (hf : f_P_hands N a0 a1 a2 w = some (r, wz)) : Met l y_P_hands (Cond.code y_P_hands b_P_hands 3 (some .int) :: lw_good) ({ frames := 4, cells := 0, slots := 0, locals := 105 } : Room) (gPre D cA oc B [.ref (B + a0), .int a1, .ref (B + a2)] w) (gQi D cA B r wz) 0 0 (gA B) := by
  refine Met.ofW (cc := b_P_hands) (maxL := 3) (ret := (some .int)) (by decide +kernel) rfl ?_
  intro p e s m args below meth c s₁ Bd hml hv
  obtain ⟨hargs, C, hR⟩ := gC.enter (l := l) rfl Bd hml hv
  subst hargs
  have hl := lv_entry ([.ref (B + a0), .int a1, .ref (B + a2)]) (n := 3) (Nat.le_of_ble_eq_true rfl)
  rw [lg_entry_eq]
  generalize (lg_sl ([.ref (B + a0), .int a1, .ref (B + a2)]) ++ List.replicate (3 - (lg_sl ([.ref (B + a0), .int a1, .ref (B + a2)])).length) Slot.unset).toArray = ls at hl ⊢
  have hl : lv_has ls 3 [(0, .ref (B + a0)), (1, .int a1), (2, .ref (B + a2))] := hl
  exact c_P_hands_b0 C a0 a1 a2 w (lv_sub hl [0, 1, 2] rfl) hf hR va_S.rf
theorem d_E_hands_0 : decode b_E_hands 0 = .ok (.aload_n 2, 1) := by decide +kernel
theorem d_E_hands_1 : decode b_E_hands 1 = .ok (.bipush 20, 2) := by decide +kernel
theorem d_E_hands_3 : decode b_E_hands 3 = .ok (.invokevirtual 25, 3) := by decide +kernel
theorem d_E_hands_6 : decode b_E_hands 6 = .ok (.aload_n 0, 1) := by decide +kernel
theorem d_E_hands_7 : decode b_E_hands 7 = .ok (.iload_n 1, 1) := by decide +kernel
theorem d_E_hands_8 : decode b_E_hands 8 = .ok (.aload_n 2, 1) := by decide +kernel
theorem d_E_hands_9 : decode b_E_hands 9 = .ok (.invokespecial 31, 3) := by decide +kernel
theorem d_E_hands_12 : decode b_E_hands 12 = .ok (.bipush 6, 2) := by decide +kernel
theorem d_E_hands_14 : decode b_E_hands 14 = .ok (.ixor, 1) := by decide +kernel
theorem d_E_hands_15 : decode b_E_hands 15 = .ok (.ireturn, 1) := by decide +kernel
set_option maxRecDepth 20000 in
theorem c_E_hands_b0 {r : Int32} {wz : gW} (C : gC p s m args meth c "RidCoppers$Exact" b_E_hands 3 (some .int) D cA oc B) (a0 : Nat) (a1 : Int32) (a2 : Nat) (w : gW) {ls : Array Slot} {H : Heap} {locs : List Loc} (hl : lv_has ls 3 [(0, .ref (B + a0)), (1, .int a1), (2, .ref (B + a2))]) (hf : f_E_hands_b0 N a0 a1 a2 w = some (r, wz)) (hR : gRep D cA B w H) (hS : va_S (gA B) s.heap H locs) : W p l e ({ frames := 5, cells := 0, slots := 0, locals := 127 } : Room) s m args below meth c H locs 0 0 (MQ below (gQi D cA B r wz) args s 0 0 (gA B)) (F0 m 0 ls []) := by
  obtain ⟨hx, hb, hml, hown, hts, hr, hlocks, hK, hBs⟩ := id C
  unfold f_E_hands_b0 at hf
  refine lv_aload_n hx hb d_E_hands_0 rfl (lv_at hl 2 rfl) ?_
  refine lv_bipush (v := 20) hx hb d_E_hands_1 (by decide) ?_
  have ⟨h4, hf⟩ := gd_e hf
  have ⟨x1, w2, h3, hf⟩ := kl_e hf
  refine g_kv0 (g_rV (As := [.int 20]) (rest := []) hx hb hml hown hts hK hR hS (c_Tr_begins l D cA oc B N a2 20 w h3) I_Tr_begins m_896 m_870 (gRecv hK hR (ci := 8) rfl h4) rfl rfl (Nat.le_of_ble_eq_true rfl) hl.1 ⟨Nat.le_of_ble_eq_true rfl, Nat.le_of_ble_eq_true rfl⟩ ⟨Nat.le_of_ble_eq_true rfl, Nat.le_of_ble_eq_true rfl⟩ d_E_hands_3) hS (fun H locs hR hS => ?_)
  refine lv_aload_n hx hb d_E_hands_6 rfl (lv_at hl 0 rfl) ?_
  refine lv_iload_n hx hb d_E_hands_7 rfl (lv_at hl 1 rfl) ?_
  refine lv_aload_n hx hb d_E_hands_8 rfl (lv_at hl 2 rfl) ?_
  have ⟨h8, hf⟩ := gd_e hf
  have ⟨x5, w6, h7, hf⟩ := kl_e hf
  have ⟨rc9, hr10, _⟩ := payl _ h8
  refine g_ki0 (g_rSU (As := [.int a1, .ref (B + a2)]) (rest := []) hx hb hml hown hts hK hR hS (c_P_hands l D cA oc B N a0 a1 a2 w2 h7) I_P_hands m_897 m_892 m_312 (by decide) hr10 rfl rfl rfl (Nat.le_of_ble_eq_true rfl) hl.1 ⟨Nat.le_of_ble_eq_true rfl, Nat.le_of_ble_eq_true rfl⟩ ⟨Nat.le_of_ble_eq_true rfl, Nat.le_of_ble_eq_true rfl⟩ d_E_hands_9) hS (fun H locs hR hS => ?_)
  refine lv_bipush (v := 6) hx hb d_E_hands_12 (by decide) ?_
  refine lv_ixor hx hb d_E_hands_14 ?_
  refine g_nI hf (fun x11 hf => ?_)
  exact g_iret hx hb hr hlocks hR hS hf rfl d_E_hands_15
theorem c_E_hands (l : Launch) (D : va_G) (cA : Nat → ClassId) (oc : gO) (B N : Nat) (a0 : Nat) (a1 : Int32) (a2 : Nat) (w : gW) {wz : gW} {r : Int32} (hf : f_E_hands N a0 a1 a2 w = some (r, wz)) : Met l y_E_hands (Cond.code y_E_hands b_E_hands 3 (some .int) :: lw_good) ({ frames := 5, cells := 0, slots := 0, locals := 127 } : Room) (gPre D cA oc B [.ref (B + a0), .int a1, .ref (B + a2)] w) (gQi D cA B r wz) 0 0 (gA B) := by
  refine Met.ofW (cc := b_E_hands) (maxL := 3) (ret := (some .int)) (by decide +kernel) rfl ?_
  intro p e s m args below meth c s₁ Bd hml hv
  obtain ⟨hargs, C, hR⟩ := gC.enter (l := l) rfl Bd hml hv
  subst hargs
  have hl := lv_entry ([.ref (B + a0), .int a1, .ref (B + a2)]) (n := 3) (Nat.le_of_ble_eq_true rfl)
  rw [lg_entry_eq]
  generalize (lg_sl ([.ref (B + a0), .int a1, .ref (B + a2)]) ++ List.replicate (3 - (lg_sl ([.ref (B + a0), .int a1, .ref (B + a2)])).length) Slot.unset).toArray = ls at hl ⊢
  have hl : lv_has ls 3 [(0, .ref (B + a0)), (1, .int a1), (2, .ref (B + a2))] := hl
  exact c_E_hands_b0 C a0 a1 a2 w (lv_sub hl [0, 1, 2] rfl) hf hR va_S.rf
theorem d_Ke_init_0 : decode b_Ke_init 0 = .ok (.aload_n 0, 1) := by decide +kernel
theorem d_Ke_init_1 : decode b_Ke_init 1 = .ok (.iload_n 1, 1) := by decide +kernel
theorem d_Ke_init_2 : decode b_Ke_init 2 = .ok (.iload_n 2, 1) := by decide +kernel
theorem d_Ke_init_3 : decode b_Ke_init 3 = .ok (.iload_n 3, 1) := by decide +kernel
theorem d_Ke_init_4 : decode b_Ke_init 4 = .ok (.invokespecial 3, 3) := by decide +kernel
theorem d_Ke_init_7 : decode b_Ke_init 7 = .ok (.return_, 1) := by decide +kernel
set_option maxRecDepth 20000 in
theorem c_Ke_init_b0 {r : Unit} {wz : gW} (C : gC p s m args meth c "RidCoppers$Keeper" b_Ke_init 4 none D cA oc B) (hin : meth.name = "<init>") (a0 : Nat) (a1 : Int32) (a2 : Int32) (a3 : Int32) (w : gW) {ls : Array Slot} {H : Heap} {locs : List Loc} (hl : lv_has ls 4 [(0, .ref (B + a0)), (1, .int a1), (2, .int a2), (3, .int a3)]) (hf : f_Ke_init_b0 N a0 a1 a2 a3 w = some (r, wz)) (hR : gRep D cA B w H) (hS : va_S (gA B) s.heap H locs) : W p l e ({ frames := 2, cells := 0, slots := 0, locals := 83 } : Room) s m args below meth c H locs 0 0 (MQ below (gQv D cA B r wz) args s 0 0 (gA B)) (F0 m 0 ls []) := by
  obtain ⟨hx, hb, hml, hown, hts, hr, hlocks, hK, hBs⟩ := id C
  unfold f_Ke_init_b0 at hf
  refine lv_aload_n hx hb d_Ke_init_0 rfl (lv_at hl 0 rfl) ?_
  refine lv_iload_n hx hb d_Ke_init_1 rfl (lv_at hl 1 rfl) ?_
  refine lv_iload_n hx hb d_Ke_init_2 rfl (lv_at hl 2 rfl) ?_
  refine lv_iload_n hx hb d_Ke_init_3 rfl (lv_at hl 3 rfl) ?_
  have ⟨h4, hf⟩ := gd_e hf
  have ⟨x1, w2, h3, hf⟩ := kl_e hf
  refine g_kv0 (g_rI (As := [.int a1, .int a2, .int a3]) (rest := []) hx hb hml hown hts hK hR hS (c_P_init l D cA oc B N a0 a1 a2 a3 w h3) I_P_init rfl m_328 rfl rfl (Nat.le_of_ble_eq_true rfl) hl.1 ⟨Nat.le_of_ble_eq_true rfl, Nat.le_of_ble_eq_true rfl⟩ ⟨Nat.le_of_ble_eq_true rfl, Nat.le_of_ble_eq_true rfl⟩ d_Ke_init_4) hS (fun H locs hR hS => ?_)
  exact g_vret hx hb hr hlocks hR hS hf d_Ke_init_7
theorem c_Ke_init (l : Launch) (D : va_G) (cA : Nat → ClassId) (oc : gO) (B N : Nat) (a0 : Nat) (a1 : Int32) (a2 : Int32) (a3 : Int32) (w : gW) {wz : gW} {r : Unit} (hf : f_Ke_init N a0 a1 a2 a3 w = some (r, wz)) : Met l y_Ke_init (Cond.code y_Ke_init b_Ke_init 4 none :: lw_good) ({ frames := 2, cells := 0, slots := 0, locals := 83 } : Room) (gPre D cA oc B [.ref (B + a0), .int a1, .int a2, .int a3] w) (gQv D cA B r wz) 0 0 (gA B) := by
  refine Met.ofW (cc := b_Ke_init) (maxL := 4) (ret := none) (by decide +kernel) rfl ?_
  intro p e s m args below meth c s₁ Bd hml hv
  obtain ⟨hargs, C, hR⟩ := gC.enter (l := l) rfl Bd hml hv
  have hin : meth.name = "<init>" := (name_of_methodNamed Bd.named Bd.method).1
  subst hargs
  have hl := lv_entry ([.ref (B + a0), .int a1, .int a2, .int a3]) (n := 4) (Nat.le_of_ble_eq_true rfl)
  rw [lg_entry_eq]
  generalize (lg_sl ([.ref (B + a0), .int a1, .int a2, .int a3]) ++ List.replicate (4 - (lg_sl ([.ref (B + a0), .int a1, .int a2, .int a3])).length) Slot.unset).toArray = ls at hl ⊢
  have hl : lv_has ls 4 [(0, .ref (B + a0)), (1, .int a1), (2, .int a2), (3, .int a3)] := hl
  exact c_Ke_init_b0 C hin a0 a1 a2 a3 w (lv_sub hl [0, 1, 2, 3] rfl) hf hR va_S.rf
theorem d_Ke_partsWith_0 : decode b_Ke_partsWith 0 = .ok (.iload_n 2, 1) := by decide +kernel
theorem d_Ke_partsWith_1 : decode b_Ke_partsWith 1 = .ok (.aload_n 0, 1) := by decide +kernel
theorem d_Ke_partsWith_2 : decode b_Ke_partsWith 2 = .ok (.getfield 9, 3) := by decide +kernel
theorem d_Ke_partsWith_5 : decode b_Ke_partsWith 5 = .ok (.bipush 6, 2) := by decide +kernel
theorem d_Ke_partsWith_7 : decode b_Ke_partsWith 7 = .ok (.irem, 1) := by decide +kernel
theorem d_Ke_partsWith_8 : decode b_Ke_partsWith 8 = .ok (.if_icmp .eq 7, 3) := by decide +kernel
theorem d_Ke_partsWith_11 : decode b_Ke_partsWith 11 = .ok (.iconst 1, 1) := by decide +kernel
theorem d_Ke_partsWith_12 : decode b_Ke_partsWith 12 = .ok (.goto 4, 3) := by decide +kernel
theorem d_Ke_partsWith_15 : decode b_Ke_partsWith 15 = .ok (.iconst 0, 1) := by decide +kernel
theorem d_Ke_partsWith_16 : decode b_Ke_partsWith 16 = .ok (.ireturn, 1) := by decide +kernel
set_option maxRecDepth 20000 in
theorem c_Ke_partsWith_b0 {r : Int32} {wz : gW} (C : gC p s m args meth c "RidCoppers$Keeper" b_Ke_partsWith 3 (some .boolean) D cA oc B) (a0 : Nat) (a2 : Int32) (w : gW) {ls : Array Slot} {H : Heap} {locs : List Loc} (hl : lv_has ls 3 [(0, .ref (B + a0)), (2, .int a2)]) (hf : f_Ke_partsWith_b0 N a0 a2 w = some (r, wz)) (hR : gRep D cA B w H) (hS : va_S (gA B) s.heap H locs) : W p l e ({ frames := 1, cells := 0, slots := 0, locals := 40 } : Room) s m args below meth c H locs 0 0 (MQ below (gQi D cA B r wz) args s 0 0 (gA B)) (F0 m 0 ls []) := by
  obtain ⟨hx, hb, hml, hown, hts, hr, hlocks, hK, hBs⟩ := id C
  unfold f_Ke_partsWith_b0 at hf
  refine lv_iload_n hx hb d_Ke_partsWith_0 rfl (lv_at hl 1 rfl) ?_
  refine lv_aload_n hx hb d_Ke_partsWith_1 rfl (lv_at hl 0 rfl) ?_
  have ⟨h1, hf⟩ := gd_e hf
  refine g_getI hx hb hts hown hK hR (flP_Ke_9 _ h1) (payv h1) rfl d_Ke_partsWith_2 ?_
  refine g_nI hf (fun x2 hf => ?_)
  refine lv_bipush (v := 6) hx hb d_Ke_partsWith_5 (by decide) ?_
  refine lv_irem hx hb d_Ke_partsWith_7 (by decide) ?_
  refine g_nI hf (fun x3 hf => ?_)
  refine lv_icmp_eq (tgt := 15) hx hb d_Ke_partsWith_8 (by decide) (fun hc => ?_) (fun hc => ?_)
  · have hf := cd_t hc hf
    refine lv_iconst (v := 0) hx hb d_Ke_partsWith_15 (by decide) ?_
    exact g_iret hx hb hr hlocks hR hS hf rfl d_Ke_partsWith_16
  have hf := cd_f hc hf
  refine lv_iconst (v := 1) hx hb d_Ke_partsWith_11 (by decide) ?_
  refine lv_goto (tgt := 16) hx hb d_Ke_partsWith_12 (by decide) ?_
  exact g_iret hx hb hr hlocks hR hS hf rfl d_Ke_partsWith_16
theorem c_Ke_partsWith (l : Launch) (D : va_G) (cA : Nat → ClassId) (oc : gO) (B N : Nat) (a0 : Nat) (a1 : Nat) (a2 : Int32) (w : gW) {wz : gW} {r : Int32} (hf : f_Ke_partsWith N a0 a1 a2 w = some (r, wz)) : Met l y_Ke_partsWith (Cond.code y_Ke_partsWith b_Ke_partsWith 3 (some .boolean) :: lw_good) ({ frames := 1, cells := 0, slots := 0, locals := 40 } : Room) (gPre D cA oc B [.ref (B + a0), .ref (B + a1), .int a2] w) (gQi D cA B r wz) 0 0 (gA B) := by
  refine Met.ofW (cc := b_Ke_partsWith) (maxL := 3) (ret := (some .boolean)) (by decide +kernel) rfl ?_
  intro p e s m args below meth c s₁ Bd hml hv
  obtain ⟨hargs, C, hR⟩ := gC.enter (l := l) rfl Bd hml hv
  subst hargs
  have hl := lv_entry ([.ref (B + a0), .ref (B + a1), .int a2]) (n := 3) (Nat.le_of_ble_eq_true rfl)
  rw [lg_entry_eq]
  generalize (lg_sl ([.ref (B + a0), .ref (B + a1), .int a2]) ++ List.replicate (3 - (lg_sl ([.ref (B + a0), .ref (B + a1), .int a2])).length) Slot.unset).toArray = ls at hl ⊢
  have hl : lv_has ls 3 [(0, .ref (B + a0)), (1, .ref (B + a1)), (2, .int a2)] := hl
  exact c_Ke_partsWith_b0 C a0 a2 w (lv_sub hl [0, 2] rfl) hf hR va_S.rf
theorem d_Li_hands_0 : decode b_Li_hands 0 = .ok (.aload_n 2, 1) := by decide +kernel
theorem d_Li_hands_1 : decode b_Li_hands 1 = .ok (.bipush 51, 2) := by decide +kernel
theorem d_Li_hands_3 : decode b_Li_hands 3 = .ok (.invokevirtual 15, 3) := by decide +kernel
theorem d_Li_hands_6 : decode b_Li_hands 6 = .ok (.aload_n 0, 1) := by decide +kernel
theorem d_Li_hands_7 : decode b_Li_hands 7 = .ok (.iload_n 1, 1) := by decide +kernel
theorem d_Li_hands_8 : decode b_Li_hands 8 = .ok (.iconst 1, 1) := by decide +kernel
theorem d_Li_hands_9 : decode b_Li_hands 9 = .ok (.iadd, 1) := by decide +kernel
theorem d_Li_hands_10 : decode b_Li_hands 10 = .ok (.aload_n 2, 1) := by decide +kernel
theorem d_Li_hands_11 : decode b_Li_hands 11 = .ok (.invokespecial 25, 3) := by decide +kernel
theorem d_Li_hands_14 : decode b_Li_hands 14 = .ok (.ireturn, 1) := by decide +kernel
set_option maxRecDepth 20000 in
theorem c_Li_hands_b0 {r : Int32} {wz : gW} (C : gC p s m args meth c "RidCoppers$Light" b_Li_hands 3 (some .int) D cA oc B) (a0 : Nat) (a1 : Int32) (a2 : Nat) (w : gW) {ls : Array Slot} {H : Heap} {locs : List Loc} (hl : lv_has ls 3 [(0, .ref (B + a0)), (1, .int a1), (2, .ref (B + a2))]) (hf : f_Li_hands_b0 N a0 a1 a2 w = some (r, wz)) (hR : gRep D cA B w H) (hS : va_S (gA B) s.heap H locs) : W p l e ({ frames := 6, cells := 0, slots := 0, locals := 149 } : Room) s m args below meth c H locs 0 0 (MQ below (gQi D cA B r wz) args s 0 0 (gA B)) (F0 m 0 ls []) := by
  obtain ⟨hx, hb, hml, hown, hts, hr, hlocks, hK, hBs⟩ := id C
  unfold f_Li_hands_b0 at hf
  refine lv_aload_n hx hb d_Li_hands_0 rfl (lv_at hl 2 rfl) ?_
  refine lv_bipush (v := 51) hx hb d_Li_hands_1 (by decide) ?_
  have ⟨h4, hf⟩ := gd_e hf
  have ⟨x1, w2, h3, hf⟩ := kl_e hf
  refine g_kv0 (g_rV (As := [.int 51]) (rest := []) hx hb hml hown hts hK hR hS (c_Tr_begins l D cA oc B N a2 51 w h3) I_Tr_begins m_868 m_870 (gRecv hK hR (ci := 8) rfl h4) rfl rfl (Nat.le_of_ble_eq_true rfl) hl.1 ⟨Nat.le_of_ble_eq_true rfl, Nat.le_of_ble_eq_true rfl⟩ ⟨Nat.le_of_ble_eq_true rfl, Nat.le_of_ble_eq_true rfl⟩ d_Li_hands_3) hS (fun H locs hR hS => ?_)
  refine lv_aload_n hx hb d_Li_hands_6 rfl (lv_at hl 0 rfl) ?_
  refine lv_iload_n hx hb d_Li_hands_7 rfl (lv_at hl 1 rfl) ?_
  refine lv_iconst (v := 1) hx hb d_Li_hands_8 (by decide) ?_
  refine lv_iadd hx hb d_Li_hands_9 ?_
  refine g_nI hf (fun x5 hf => ?_)
  refine lv_aload_n hx hb d_Li_hands_10 rfl (lv_at hl 2 rfl) ?_
  have ⟨h9, hf⟩ := gd_e hf
  have ⟨x6, w7, h8, hf⟩ := kl_e hf
  have ⟨rc10, hr11, _⟩ := payl _ h9
  refine g_ki0 (g_rSU (As := [.int x5, .ref (B + a2)]) (rest := []) hx hb hml hown hts hK hR hS (c_E_hands l D cA oc B N a0 x5 a2 w2 h8) I_E_hands m_902 m_1572 m_342 (by decide) hr11 rfl rfl rfl (Nat.le_of_ble_eq_true rfl) hl.1 ⟨Nat.le_of_ble_eq_true rfl, Nat.le_of_ble_eq_true rfl⟩ ⟨Nat.le_of_ble_eq_true rfl, Nat.le_of_ble_eq_true rfl⟩ d_Li_hands_11) hS (fun H locs hR hS => ?_)
  exact g_iret hx hb hr hlocks hR hS hf rfl d_Li_hands_14
theorem c_Li_hands (l : Launch) (D : va_G) (cA : Nat → ClassId) (oc : gO) (B N : Nat) (a0 : Nat) (a1 : Int32) (a2 : Nat) (w : gW) {wz : gW} {r : Int32} (hf : f_Li_hands N a0 a1 a2 w = some (r, wz)) : Met l y_Li_hands (Cond.code y_Li_hands b_Li_hands 3 (some .int) :: lw_good) ({ frames := 6, cells := 0, slots := 0, locals := 149 } : Room) (gPre D cA oc B [.ref (B + a0), .int a1, .ref (B + a2)] w) (gQi D cA B r wz) 0 0 (gA B) := by
  refine Met.ofW (cc := b_Li_hands) (maxL := 3) (ret := (some .int)) (by decide +kernel) rfl ?_
  intro p e s m args below meth c s₁ Bd hml hv
  obtain ⟨hargs, C, hR⟩ := gC.enter (l := l) rfl Bd hml hv
  subst hargs
  have hl := lv_entry ([.ref (B + a0), .int a1, .ref (B + a2)]) (n := 3) (Nat.le_of_ble_eq_true rfl)
  rw [lg_entry_eq]
  generalize (lg_sl ([.ref (B + a0), .int a1, .ref (B + a2)]) ++ List.replicate (3 - (lg_sl ([.ref (B + a0), .int a1, .ref (B + a2)])).length) Slot.unset).toArray = ls at hl ⊢
  have hl : lv_has ls 3 [(0, .ref (B + a0)), (1, .int a1), (2, .ref (B + a2))] := hl
  exact c_Li_hands_b0 C a0 a1 a2 w (lv_sub hl [0, 1, 2] rfl) hf hR va_S.rf
theorem d_To_hands_0 : decode b_To_hands 0 = .ok (.aload_n 2, 1) := by decide +kernel
theorem d_To_hands_1 : decode b_To_hands 1 = .ok (.bipush 70, 2) := by decide +kernel
theorem d_To_hands_3 : decode b_To_hands 3 = .ok (.invokevirtual 25, 3) := by decide +kernel
theorem d_To_hands_6 : decode b_To_hands 6 = .ok (.aload_n 0, 1) := by decide +kernel
theorem d_To_hands_7 : decode b_To_hands 7 = .ok (.iload_n 1, 1) := by decide +kernel
theorem d_To_hands_8 : decode b_To_hands 8 = .ok (.aload_n 2, 1) := by decide +kernel
theorem d_To_hands_9 : decode b_To_hands 9 = .ok (.invokespecial 31, 3) := by decide +kernel
theorem d_To_hands_12 : decode b_To_hands 12 = .ok (.aload_n 0, 1) := by decide +kernel
theorem d_To_hands_13 : decode b_To_hands 13 = .ok (.iconst 2, 1) := by decide +kernel
theorem d_To_hands_14 : decode b_To_hands 14 = .ok (.aload_n 2, 1) := by decide +kernel
theorem d_To_hands_15 : decode b_To_hands 15 = .ok (.invokespecial 35, 3) := by decide +kernel
theorem d_To_hands_18 : decode b_To_hands 18 = .ok (.iadd, 1) := by decide +kernel
theorem d_To_hands_19 : decode b_To_hands 19 = .ok (.ireturn, 1) := by decide +kernel
set_option maxRecDepth 20000 in
theorem c_To_hands_b0 {r : Int32} {wz : gW} (C : gC p s m args meth c "RidCoppers$Told" b_To_hands 3 (some .int) D cA oc B) (a0 : Nat) (a1 : Int32) (a2 : Nat) (w : gW) {ls : Array Slot} {H : Heap} {locs : List Loc} (hl : lv_has ls 3 [(0, .ref (B + a0)), (1, .int a1), (2, .ref (B + a2))]) (hf : f_To_hands_b0 N a0 a1 a2 w = some (r, wz)) (hR : gRep D cA B w H) (hS : va_S (gA B) s.heap H locs) : W p l e ({ frames := 5, cells := 0, slots := 0, locals := 127 } : Room) s m args below meth c H locs 0 0 (MQ below (gQi D cA B r wz) args s 0 0 (gA B)) (F0 m 0 ls []) := by
  obtain ⟨hx, hb, hml, hown, hts, hr, hlocks, hK, hBs⟩ := id C
  unfold f_To_hands_b0 at hf
  refine lv_aload_n hx hb d_To_hands_0 rfl (lv_at hl 2 rfl) ?_
  refine lv_bipush (v := 70) hx hb d_To_hands_1 (by decide) ?_
  have ⟨h4, hf⟩ := gd_e hf
  have ⟨x1, w2, h3, hf⟩ := kl_e hf
  refine g_kv0 (g_rV (As := [.int 70]) (rest := []) hx hb hml hown hts hK hR hS (c_Tr_begins l D cA oc B N a2 70 w h3) I_Tr_begins m_883 m_870 (gRecv hK hR (ci := 8) rfl h4) rfl rfl (Nat.le_of_ble_eq_true rfl) hl.1 ⟨Nat.le_of_ble_eq_true rfl, Nat.le_of_ble_eq_true rfl⟩ ⟨Nat.le_of_ble_eq_true rfl, Nat.le_of_ble_eq_true rfl⟩ d_To_hands_3) hS (fun H locs hR hS => ?_)
  refine lv_aload_n hx hb d_To_hands_6 rfl (lv_at hl 0 rfl) ?_
  refine lv_iload_n hx hb d_To_hands_7 rfl (lv_at hl 1 rfl) ?_
  refine lv_aload_n hx hb d_To_hands_8 rfl (lv_at hl 2 rfl) ?_
  have ⟨h8, hf⟩ := gd_e hf
  have ⟨x5, w6, h7, hf⟩ := kl_e hf
  have ⟨rc9, hr10, _⟩ := payl _ h8
  refine g_ki0 (g_rSUX0 (x := ⟨"RidCoppers$Keeper", "hands", "(ILRidCoppers$Trace;)I"⟩) (owner := "RidCoppers$Payer") (As := [.int a1, .ref (B + a2)]) (rest := []) hx hb hml hown hts hK hR hS (c_P_hands l D cA oc B N a0 a1 a2 w2 h7) I_P_hands m_907 m_908 m_362 m_332 (by decide) hr10 rfl rfl rfl (Nat.le_of_ble_eq_true rfl) hl.1 ⟨Nat.le_of_ble_eq_true rfl, Nat.le_of_ble_eq_true rfl⟩ ⟨Nat.le_of_ble_eq_true rfl, Nat.le_of_ble_eq_true rfl⟩ d_To_hands_9) hS (fun H locs hR hS => ?_)
  refine lv_aload_n hx hb d_To_hands_12 rfl (lv_at hl 0 rfl) ?_
  refine lv_iconst (v := 2) hx hb d_To_hands_13 (by decide) ?_
  refine lv_aload_n hx hb d_To_hands_14 rfl (lv_at hl 2 rfl) ?_
  have ⟨h14, hf⟩ := gd_e hf
  have ⟨x11, w12, h13, hf⟩ := kl_e hf
  have ⟨rc15, hr16, _⟩ := payl _ h14
  refine g_ki0 (g_rSUX0 (x := ⟨"RidCoppers$Keeper", "counts", "(ILRidCoppers$Trace;)I"⟩) (owner := "RidCoppers$Payer") (As := [.int 2, .ref (B + a2)]) (rest := [.int x5]) hx hb hml hown hts hK hR hS (c_P_counts l D cA oc B N a0 2 a2 w6 h13) I_P_counts m_884 m_885 m_362 m_332 (by decide) hr16 rfl rfl rfl (Nat.le_of_ble_eq_true rfl) hl.1 ⟨Nat.le_of_ble_eq_true rfl, Nat.le_of_ble_eq_true rfl⟩ ⟨Nat.le_of_ble_eq_true rfl, Nat.le_of_ble_eq_true rfl⟩ d_To_hands_15) hS (fun H locs hR hS => ?_)
  refine lv_iadd hx hb d_To_hands_18 ?_
  refine g_nI hf (fun x17 hf => ?_)
  exact g_iret hx hb hr hlocks hR hS hf rfl d_To_hands_19
theorem c_To_hands (l : Launch) (D : va_G) (cA : Nat → ClassId) (oc : gO) (B N : Nat) (a0 : Nat) (a1 : Int32) (a2 : Nat) (w : gW) {wz : gW} {r : Int32} (hf : f_To_hands N a0 a1 a2 w = some (r, wz)) : Met l y_To_hands (Cond.code y_To_hands b_To_hands 3 (some .int) :: lw_good) ({ frames := 5, cells := 0, slots := 0, locals := 127 } : Room) (gPre D cA oc B [.ref (B + a0), .int a1, .ref (B + a2)] w) (gQi D cA B r wz) 0 0 (gA B) := by
  refine Met.ofW (cc := b_To_hands) (maxL := 3) (ret := (some .int)) (by decide +kernel) rfl ?_
  intro p e s m args below meth c s₁ Bd hml hv
  obtain ⟨hargs, C, hR⟩ := gC.enter (l := l) rfl Bd hml hv
  subst hargs
  have hl := lv_entry ([.ref (B + a0), .int a1, .ref (B + a2)]) (n := 3) (Nat.le_of_ble_eq_true rfl)
  rw [lg_entry_eq]
  generalize (lg_sl ([.ref (B + a0), .int a1, .ref (B + a2)]) ++ List.replicate (3 - (lg_sl ([.ref (B + a0), .int a1, .ref (B + a2)])).length) Slot.unset).toArray = ls at hl ⊢
  have hl : lv_has ls 3 [(0, .ref (B + a0)), (1, .int a1), (2, .ref (B + a2))] := hl
  exact c_To_hands_b0 C a0 a1 a2 w (lv_sub hl [0, 1, 2] rfl) hf hR va_S.rf
theorem d_P_tells_0 : decode b_P_tells 0 = .ok (.aload_n 2, 1) := by decide +kernel
theorem d_P_tells_1 : decode b_P_tells 1 = .ok (.bipush 12, 2) := by decide +kernel
theorem d_P_tells_3 : decode b_P_tells 3 = .ok (.invokevirtual 33, 3) := by decide +kernel
theorem d_P_tells_6 : decode b_P_tells 6 = .ok (.aload_n 0, 1) := by decide +kernel
theorem d_P_tells_7 : decode b_P_tells 7 = .ok (.iload_n 1, 1) := by decide +kernel
theorem d_P_tells_8 : decode b_P_tells 8 = .ok (.aload_n 2, 1) := by decide +kernel
theorem d_P_tells_9 : decode b_P_tells 9 = .ok (.invokevirtual 43, 3) := by decide +kernel
theorem d_P_tells_12 : decode b_P_tells 12 = .ok (.iconst 2, 1) := by decide +kernel
theorem d_P_tells_13 : decode b_P_tells 13 = .ok (.imul, 1) := by decide +kernel
theorem d_P_tells_14 : decode b_P_tells 14 = .ok (.ireturn, 1) := by decide +kernel
set_option maxRecDepth 20000 in
theorem g_rv_hands {R : Room} {H : Heap} {locs : List Loc} {cells slots idx nL a pc : Nat} {ls : Array Slot} {cc : ByteArray} {own : String} {w w1 : gW} {rest st0 : List Value} {a1 : Int32} {a2 : Nat} {x : Int32} (hexec : p.tables.exec = Jvm.exec) (hb : c.code = cc) (hml : c.maxLocals = nL) (hown : s.vm.findClass own = some m.cls) (hts : ∀ w ∈ lw_good, w.before args s = true) (hK : gK D cA oc B s s.heap) (hR : gRep D cA B w H) (hS : va_S (gA B) s.heap H locs) (hh : v_hands N a a1 a2 w = some (x, w1)) (hl : Cond.methodLink own idx y_P_hands ∈ lw_good) (hstack : st0 = .ref (B + a2) :: .int a1 :: .ref (B + a) :: rest) (hcat : (rest.map fun v => v.category).sum ≤ 8) (hsz : ls.size = nL) (hrm : 7 ≤ R.frames ∧ 171 ≤ R.locals) (hcs : cells ≤ R.cells ∧ slots ≤ R.slots) (hdg : decode cc pc = .ok (.invokevirtual idx, 3)) : va_Run p l e R s m args below meth c H locs cells slots 0 0 (F0 m pc ls st0) rest (gQi D cA B x w1 (Value.ref (B + a) :: [.int a1, .ref (B + a2)]).toArray) (gA B) := by
  unfold v_hands at hh
  by_cases h0 : (sh w a).1 = 0
  · have hh := cd_t h0 hh
    exact g_rU (As := [.int a1, .ref (B + a2)]) (rest := rest) (x := y_P_hands) (owner := "RidCoppers$Payer") (C := "RidCoppers$Payer") hexec hb hml hown hts hK hR hS (c_P_hands l D cA oc B N a a1 a2 w hh) I_P_hands hl m_892 m_890 m_911 m_891 (by decide) (by decide +kernel) (gRecv hK hR (ci := 0) rfl h0) rfl hstack hcat hsz ⟨Nat.le_trans (m := 7) (Nat.le_of_ble_eq_true rfl) hrm.1, Nat.le_trans (m := 171) (Nat.le_of_ble_eq_true rfl) hrm.2⟩ hcs hdg
  have hh := cd_f h0 hh
  by_cases h1 : (sh w a).1 = 1
  · have hh := cd_t h1 hh
    exact g_rU (As := [.int a1, .ref (B + a2)]) (rest := rest) (x := y_P_hands) (owner := "RidCoppers$Payer") (C := "RidCoppers$Exact") hexec hb hml hown hts hK hR hS (c_E_hands l D cA oc B N a a1 a2 w hh) I_E_hands hl m_892 m_890 m_911 m_893 (by decide) (by decide +kernel) (gRecv hK hR (ci := 1) rfl h1) rfl hstack hcat hsz ⟨Nat.le_trans (m := 7) (Nat.le_of_ble_eq_true rfl) hrm.1, Nat.le_trans (m := 171) (Nat.le_of_ble_eq_true rfl) hrm.2⟩ hcs hdg
  have hh := cd_f h1 hh
  by_cases h2 : (sh w a).1 = 2
  · have hh := cd_t h2 hh
    exact g_rU (As := [.int a1, .ref (B + a2)]) (rest := rest) (x := y_P_hands) (owner := "RidCoppers$Payer") (C := "RidCoppers$Rough") hexec hb hml hown hts hK hR hS (c_P_hands l D cA oc B N a a1 a2 w hh) I_P_hands hl m_892 m_890 m_911 m_903 (by decide) (by decide +kernel) (gRecv hK hR (ci := 2) rfl h2) rfl hstack hcat hsz ⟨Nat.le_trans (m := 7) (Nat.le_of_ble_eq_true rfl) hrm.1, Nat.le_trans (m := 171) (Nat.le_of_ble_eq_true rfl) hrm.2⟩ hcs hdg
  have hh := cd_f h2 hh
  by_cases h3 : (sh w a).1 = 3
  · have hh := cd_t h3 hh
    exact g_rU (As := [.int a1, .ref (B + a2)]) (rest := rest) (x := y_P_hands) (owner := "RidCoppers$Payer") (C := "RidCoppers$Keeper") hexec hb hml hown hts hK hR hS (c_P_hands l D cA oc B N a a1 a2 w hh) I_P_hands hl m_892 m_890 m_911 m_898 (by decide) (by decide +kernel) (gRecv hK hR (ci := 3) rfl h3) rfl hstack hcat hsz ⟨Nat.le_trans (m := 7) (Nat.le_of_ble_eq_true rfl) hrm.1, Nat.le_trans (m := 171) (Nat.le_of_ble_eq_true rfl) hrm.2⟩ hcs hdg
  have hh := cd_f h3 hh
  by_cases h4 : (sh w a).1 = 4
  · have hh := cd_t h4 hh
    exact g_rU (As := [.int a1, .ref (B + a2)]) (rest := rest) (x := y_P_hands) (owner := "RidCoppers$Payer") (C := "RidCoppers$Light") hexec hb hml hown hts hK hR hS (c_Li_hands l D cA oc B N a a1 a2 w hh) I_Li_hands hl m_892 m_890 m_911 m_899 (by decide) (by decide +kernel) (gRecv hK hR (ci := 4) rfl h4) rfl hstack hcat hsz ⟨Nat.le_trans (m := 7) (Nat.le_of_ble_eq_true rfl) hrm.1, Nat.le_trans (m := 171) (Nat.le_of_ble_eq_true rfl) hrm.2⟩ hcs hdg
  have hh := cd_f h4 hh
  by_cases h5 : (sh w a).1 = 5
  · have hh := cd_t h5 hh
    exact g_rU (As := [.int a1, .ref (B + a2)]) (rest := rest) (x := y_P_hands) (owner := "RidCoppers$Payer") (C := "RidCoppers$Wild") hexec hb hml hown hts hK hR hS (c_P_hands l D cA oc B N a a1 a2 w hh) I_P_hands hl m_892 m_890 m_911 m_910 (by decide) (by decide +kernel) (gRecv hK hR (ci := 5) rfl h5) rfl hstack hcat hsz ⟨Nat.le_trans (m := 7) (Nat.le_of_ble_eq_true rfl) hrm.1, Nat.le_trans (m := 171) (Nat.le_of_ble_eq_true rfl) hrm.2⟩ hcs hdg
  have hh := cd_f h5 hh
  by_cases h6 : (sh w a).1 = 6
  · have hh := cd_t h6 hh
    exact g_rU (As := [.int a1, .ref (B + a2)]) (rest := rest) (x := y_P_hands) (owner := "RidCoppers$Payer") (C := "RidCoppers$Told") hexec hb hml hown hts hK hR hS (c_To_hands l D cA oc B N a a1 a2 w hh) I_To_hands hl m_892 m_890 m_911 m_904 (by decide) (by decide +kernel) (gRecv hK hR (ci := 6) rfl h6) rfl hstack hcat hsz ⟨Nat.le_trans (m := 7) (Nat.le_of_ble_eq_true rfl) hrm.1, Nat.le_trans (m := 171) (Nat.le_of_ble_eq_true rfl) hrm.2⟩ hcs hdg
  have hh := cd_f h6 hh
  cases hh
set_option maxRecDepth 20000 in
theorem c_P_tells_b0 {r : Int32} {wz : gW} (C : gC p s m args meth c "RidCoppers$Payer" b_P_tells 3 (some .int) D cA oc B) (a0 : Nat) (a1 : Int32) (a2 : Nat) (w : gW) {ls : Array Slot} {H : Heap} {locs : List Loc} (hl : lv_has ls 3 [(0, .ref (B + a0)), (1, .int a1), (2, .ref (B + a2))]) (hf : f_P_tells_b0 N a0 a1 a2 w = some (r, wz)) (hR : gRep D cA B w H) (hS : va_S (gA B) s.heap H locs) : W p l e ({ frames := 7, cells := 0, slots := 0, locals := 171 } : Room) s m args below meth c H locs 0 0 (MQ below (gQi D cA B r wz) args s 0 0 (gA B)) (F0 m 0 ls []) := by
  obtain ⟨hx, hb, hml, hown, hts, hr, hlocks, hK, hBs⟩ := id C
  unfold f_P_tells_b0 at hf
  refine lv_aload_n hx hb d_P_tells_0 rfl (lv_at hl 2 rfl) ?_
  refine lv_bipush (v := 12) hx hb d_P_tells_1 (by decide) ?_
  have ⟨h4, hf⟩ := gd_e hf
  have ⟨x1, w2, h3, hf⟩ := kl_e hf
  refine g_kv0 (g_rV (As := [.int 12]) (rest := []) hx hb hml hown hts hK hR hS (c_Tr_begins l D cA oc B N a2 12 w h3) I_Tr_begins m_888 m_870 (gRecv hK hR (ci := 8) rfl h4) rfl rfl (Nat.le_of_ble_eq_true rfl) hl.1 ⟨Nat.le_of_ble_eq_true rfl, Nat.le_of_ble_eq_true rfl⟩ ⟨Nat.le_of_ble_eq_true rfl, Nat.le_of_ble_eq_true rfl⟩ d_P_tells_3) hS (fun H locs hR hS => ?_)
  refine lv_aload_n hx hb d_P_tells_6 rfl (lv_at hl 0 rfl) ?_
  refine lv_iload_n hx hb d_P_tells_7 rfl (lv_at hl 1 rfl) ?_
  refine lv_aload_n hx hb d_P_tells_8 rfl (lv_at hl 2 rfl) ?_
  have ⟨x5, w6, h7, hf⟩ := kl_e hf
  refine g_ki0 (g_rv_hands (rest := []) hx hb hml hown hts hK hR hS h7 m_937 rfl (Nat.le_of_ble_eq_true rfl) hl.1 ⟨Nat.le_of_ble_eq_true rfl, Nat.le_of_ble_eq_true rfl⟩ ⟨Nat.le_of_ble_eq_true rfl, Nat.le_of_ble_eq_true rfl⟩ d_P_tells_9) hS (fun H locs hR hS => ?_)
  refine lv_iconst (v := 2) hx hb d_P_tells_12 (by decide) ?_
  refine lv_imul hx hb d_P_tells_13 ?_
  refine g_nI hf (fun x8 hf => ?_)
  exact g_iret hx hb hr hlocks hR hS hf rfl d_P_tells_14
theorem c_P_tells (l : Launch) (D : va_G) (cA : Nat → ClassId) (oc : gO) (B N : Nat) (a0 : Nat) (a1 : Int32) (a2 : Nat) (w : gW) {wz : gW} {r : Int32} (hf : f_P_tells N a0 a1 a2 w = some (r, wz)) : Met l y_P_tells (Cond.code y_P_tells b_P_tells 3 (some .int) :: lw_good) ({ frames := 7, cells := 0, slots := 0, locals := 171 } : Room) (gPre D cA oc B [.ref (B + a0), .int a1, .ref (B + a2)] w) (gQi D cA B r wz) 0 0 (gA B) := by
  refine Met.ofW (cc := b_P_tells) (maxL := 3) (ret := (some .int)) (by decide +kernel) rfl ?_
  intro p e s m args below meth c s₁ Bd hml hv
  obtain ⟨hargs, C, hR⟩ := gC.enter (l := l) rfl Bd hml hv
  subst hargs
  have hl := lv_entry ([.ref (B + a0), .int a1, .ref (B + a2)]) (n := 3) (Nat.le_of_ble_eq_true rfl)
  rw [lg_entry_eq]
  generalize (lg_sl ([.ref (B + a0), .int a1, .ref (B + a2)]) ++ List.replicate (3 - (lg_sl ([.ref (B + a0), .int a1, .ref (B + a2)])).length) Slot.unset).toArray = ls at hl ⊢
  have hl : lv_has ls 3 [(0, .ref (B + a0)), (1, .int a1), (2, .ref (B + a2))] := hl
  exact c_P_tells_b0 C a0 a1 a2 w (lv_sub hl [0, 1, 2] rfl) hf hR va_S.rf
theorem d_Ke_tells_0 : decode b_Ke_tells 0 = .ok (.aload_n 2, 1) := by decide +kernel
theorem d_Ke_tells_1 : decode b_Ke_tells 1 = .ok (.bipush 40, 2) := by decide +kernel
theorem d_Ke_tells_3 : decode b_Ke_tells 3 = .ok (.invokevirtual 15, 3) := by decide +kernel
theorem d_Ke_tells_6 : decode b_Ke_tells 6 = .ok (.aload_n 0, 1) := by decide +kernel
theorem d_Ke_tells_7 : decode b_Ke_tells 7 = .ok (.iload_n 1, 1) := by decide +kernel
theorem d_Ke_tells_8 : decode b_Ke_tells 8 = .ok (.aload_n 2, 1) := by decide +kernel
theorem d_Ke_tells_9 : decode b_Ke_tells 9 = .ok (.invokespecial 21, 3) := by decide +kernel
theorem d_Ke_tells_12 : decode b_Ke_tells 12 = .ok (.aload_n 0, 1) := by decide +kernel
theorem d_Ke_tells_13 : decode b_Ke_tells 13 = .ok (.iconst 1, 1) := by decide +kernel
theorem d_Ke_tells_14 : decode b_Ke_tells 14 = .ok (.aload_n 2, 1) := by decide +kernel
theorem d_Ke_tells_15 : decode b_Ke_tells 15 = .ok (.invokevirtual 25, 3) := by decide +kernel
theorem d_Ke_tells_18 : decode b_Ke_tells 18 = .ok (.iadd, 1) := by decide +kernel
theorem d_Ke_tells_19 : decode b_Ke_tells 19 = .ok (.ireturn, 1) := by decide +kernel
set_option maxRecDepth 20000 in
theorem g_rv_handsK {R : Room} {H : Heap} {locs : List Loc} {cells slots idx nL a pc : Nat} {ls : Array Slot} {cc : ByteArray} {own : String} {w w1 : gW} {rest st0 : List Value} {a1 : Int32} {a2 : Nat} {x : Int32} (hexec : p.tables.exec = Jvm.exec) (hb : c.code = cc) (hml : c.maxLocals = nL) (hown : s.vm.findClass own = some m.cls) (hts : ∀ w ∈ lw_good, w.before args s = true) (hK : gK D cA oc B s s.heap) (hR : gRep D cA B w H) (hS : va_S (gA B) s.heap H locs) (hh : v_handsK N a a1 a2 w = some (x, w1)) (hl : Cond.methodLink own idx (⟨"RidCoppers$Keeper", "hands", "(ILRidCoppers$Trace;)I"⟩ : MethodName) ∈ lw_good) (hstack : st0 = .ref (B + a2) :: .int a1 :: .ref (B + a) :: rest) (hcat : (rest.map fun v => v.category).sum ≤ 8) (hsz : ls.size = nL) (hrm : 6 ≤ R.frames ∧ 149 ≤ R.locals) (hcs : cells ≤ R.cells ∧ slots ≤ R.slots) (hdg : decode cc pc = .ok (.invokevirtual idx, 3)) : va_Run p l e R s m args below meth c H locs cells slots 0 0 (F0 m pc ls st0) rest (gQi D cA B x w1 (Value.ref (B + a) :: [.int a1, .ref (B + a2)]).toArray) (gA B) := by
  unfold v_handsK at hh
  by_cases h3 : (sh w a).1 = 3
  · have hh := cd_t h3 hh
    exact g_rU (As := [.int a1, .ref (B + a2)]) (rest := rest) (x := (⟨"RidCoppers$Keeper", "hands", "(ILRidCoppers$Trace;)I"⟩ : MethodName)) (owner := "RidCoppers$Payer") (C := "RidCoppers$Keeper") hexec hb hml hown hts hK hR hS (c_P_hands l D cA oc B N a a1 a2 w hh) I_P_hands hl m_908 m_890 m_911 m_924 (by decide) (by decide +kernel) (gRecv hK hR (ci := 3) rfl h3) rfl hstack hcat hsz ⟨Nat.le_trans (m := 6) (Nat.le_of_ble_eq_true rfl) hrm.1, Nat.le_trans (m := 149) (Nat.le_of_ble_eq_true rfl) hrm.2⟩ hcs hdg
  have hh := cd_f h3 hh
  by_cases h6 : (sh w a).1 = 6
  · have hh := cd_t h6 hh
    exact g_rU (As := [.int a1, .ref (B + a2)]) (rest := rest) (x := (⟨"RidCoppers$Keeper", "hands", "(ILRidCoppers$Trace;)I"⟩ : MethodName)) (owner := "RidCoppers$Payer") (C := "RidCoppers$Told") hexec hb hml hown hts hK hR hS (c_To_hands l D cA oc B N a a1 a2 w hh) I_To_hands hl m_908 m_890 m_911 m_925 (by decide) (by decide +kernel) (gRecv hK hR (ci := 6) rfl h6) rfl hstack hcat hsz ⟨Nat.le_trans (m := 6) (Nat.le_of_ble_eq_true rfl) hrm.1, Nat.le_trans (m := 149) (Nat.le_of_ble_eq_true rfl) hrm.2⟩ hcs hdg
  have hh := cd_f h6 hh
  cases hh
set_option maxRecDepth 20000 in
theorem c_Ke_tells_b0 {r : Int32} {wz : gW} (C : gC p s m args meth c "RidCoppers$Keeper" b_Ke_tells 3 (some .int) D cA oc B) (a0 : Nat) (a1 : Int32) (a2 : Nat) (w : gW) {ls : Array Slot} {H : Heap} {locs : List Loc} (hl : lv_has ls 3 [(0, .ref (B + a0)), (1, .int a1), (2, .ref (B + a2))]) (hf : f_Ke_tells_b0 N a0 a1 a2 w = some (r, wz)) (hR : gRep D cA B w H) (hS : va_S (gA B) s.heap H locs) : W p l e ({ frames := 8, cells := 0, slots := 0, locals := 193 } : Room) s m args below meth c H locs 0 0 (MQ below (gQi D cA B r wz) args s 0 0 (gA B)) (F0 m 0 ls []) := by
  obtain ⟨hx, hb, hml, hown, hts, hr, hlocks, hK, hBs⟩ := id C
  unfold f_Ke_tells_b0 at hf
  refine lv_aload_n hx hb d_Ke_tells_0 rfl (lv_at hl 2 rfl) ?_
  refine lv_bipush (v := 40) hx hb d_Ke_tells_1 (by decide) ?_
  have ⟨h4, hf⟩ := gd_e hf
  have ⟨x1, w2, h3, hf⟩ := kl_e hf
  refine g_kv0 (g_rV (As := [.int 40]) (rest := []) hx hb hml hown hts hK hR hS (c_Tr_begins l D cA oc B N a2 40 w h3) I_Tr_begins m_921 m_870 (gRecv hK hR (ci := 8) rfl h4) rfl rfl (Nat.le_of_ble_eq_true rfl) hl.1 ⟨Nat.le_of_ble_eq_true rfl, Nat.le_of_ble_eq_true rfl⟩ ⟨Nat.le_of_ble_eq_true rfl, Nat.le_of_ble_eq_true rfl⟩ d_Ke_tells_3) hS (fun H locs hR hS => ?_)
  refine lv_aload_n hx hb d_Ke_tells_6 rfl (lv_at hl 0 rfl) ?_
  refine lv_iload_n hx hb d_Ke_tells_7 rfl (lv_at hl 1 rfl) ?_
  refine lv_aload_n hx hb d_Ke_tells_8 rfl (lv_at hl 2 rfl) ?_
  have ⟨h8, hf⟩ := gd_e hf
  have ⟨x5, w6, h7, hf⟩ := kl_e hf
  have ⟨rc9, hr10, _⟩ := payl _ h8
  refine g_ki0 (g_rSU (As := [.int a1, .ref (B + a2)]) (rest := []) hx hb hml hown hts hK hR hS (c_P_tells l D cA oc B N a0 a1 a2 w2 h7) I_P_tells m_922 m_916 m_332 (by decide) hr10 rfl rfl rfl (Nat.le_of_ble_eq_true rfl) hl.1 ⟨Nat.le_of_ble_eq_true rfl, Nat.le_of_ble_eq_true rfl⟩ ⟨Nat.le_of_ble_eq_true rfl, Nat.le_of_ble_eq_true rfl⟩ d_Ke_tells_9) hS (fun H locs hR hS => ?_)
  refine lv_aload_n hx hb d_Ke_tells_12 rfl (lv_at hl 0 rfl) ?_
  refine lv_iconst (v := 1) hx hb d_Ke_tells_13 (by decide) ?_
  refine lv_aload_n hx hb d_Ke_tells_14 rfl (lv_at hl 2 rfl) ?_
  have ⟨x11, w12, h13, hf⟩ := kl_e hf
  refine g_ki0 (g_rv_handsK (rest := [.int x5]) hx hb hml hown hts hK hR hS h13 m_923 rfl (Nat.le_of_ble_eq_true rfl) hl.1 ⟨Nat.le_of_ble_eq_true rfl, Nat.le_of_ble_eq_true rfl⟩ ⟨Nat.le_of_ble_eq_true rfl, Nat.le_of_ble_eq_true rfl⟩ d_Ke_tells_15) hS (fun H locs hR hS => ?_)
  refine lv_iadd hx hb d_Ke_tells_18 ?_
  refine g_nI hf (fun x14 hf => ?_)
  exact g_iret hx hb hr hlocks hR hS hf rfl d_Ke_tells_19
theorem c_Ke_tells (l : Launch) (D : va_G) (cA : Nat → ClassId) (oc : gO) (B N : Nat) (a0 : Nat) (a1 : Int32) (a2 : Nat) (w : gW) {wz : gW} {r : Int32} (hf : f_Ke_tells N a0 a1 a2 w = some (r, wz)) : Met l y_Ke_tells (Cond.code y_Ke_tells b_Ke_tells 3 (some .int) :: lw_good) ({ frames := 8, cells := 0, slots := 0, locals := 193 } : Room) (gPre D cA oc B [.ref (B + a0), .int a1, .ref (B + a2)] w) (gQi D cA B r wz) 0 0 (gA B) := by
  refine Met.ofW (cc := b_Ke_tells) (maxL := 3) (ret := (some .int)) (by decide +kernel) rfl ?_
  intro p e s m args below meth c s₁ Bd hml hv
  obtain ⟨hargs, C, hR⟩ := gC.enter (l := l) rfl Bd hml hv
  subst hargs
  have hl := lv_entry ([.ref (B + a0), .int a1, .ref (B + a2)]) (n := 3) (Nat.le_of_ble_eq_true rfl)
  rw [lg_entry_eq]
  generalize (lg_sl ([.ref (B + a0), .int a1, .ref (B + a2)]) ++ List.replicate (3 - (lg_sl ([.ref (B + a0), .int a1, .ref (B + a2)])).length) Slot.unset).toArray = ls at hl ⊢
  have hl : lv_has ls 3 [(0, .ref (B + a0)), (1, .int a1), (2, .ref (B + a2))] := hl
  exact c_Ke_tells_b0 C a0 a1 a2 w (lv_sub hl [0, 1, 2] rfl) hf hR va_S.rf
theorem d_Li_init_0 : decode b_Li_init 0 = .ok (.aload_n 0, 1) := by decide +kernel
theorem d_Li_init_1 : decode b_Li_init 1 = .ok (.iconst 4, 1) := by decide +kernel
theorem d_Li_init_2 : decode b_Li_init 2 = .ok (.iload_n 1, 1) := by decide +kernel
theorem d_Li_init_3 : decode b_Li_init 3 = .ok (.iload_n 2, 1) := by decide +kernel
theorem d_Li_init_4 : decode b_Li_init 4 = .ok (.invokespecial 3, 3) := by decide +kernel
theorem d_Li_init_7 : decode b_Li_init 7 = .ok (.return_, 1) := by decide +kernel
set_option maxRecDepth 20000 in
theorem c_Li_init_b0 {r : Unit} {wz : gW} (C : gC p s m args meth c "RidCoppers$Light" b_Li_init 3 none D cA oc B) (hin : meth.name = "<init>") (a0 : Nat) (a1 : Int32) (a2 : Int32) (w : gW) {ls : Array Slot} {H : Heap} {locs : List Loc} (hl : lv_has ls 3 [(0, .ref (B + a0)), (1, .int a1), (2, .int a2)]) (hf : f_Li_init_b0 N a0 a1 a2 w = some (r, wz)) (hR : gRep D cA B w H) (hS : va_S (gA B) s.heap H locs) : W p l e ({ frames := 3, cells := 0, slots := 0, locals := 106 } : Room) s m args below meth c H locs 0 0 (MQ below (gQv D cA B r wz) args s 0 0 (gA B)) (F0 m 0 ls []) := by
  obtain ⟨hx, hb, hml, hown, hts, hr, hlocks, hK, hBs⟩ := id C
  unfold f_Li_init_b0 at hf
  refine lv_aload_n hx hb d_Li_init_0 rfl (lv_at hl 0 rfl) ?_
  refine lv_iconst (v := 4) hx hb d_Li_init_1 (by decide) ?_
  refine lv_iload_n hx hb d_Li_init_2 rfl (lv_at hl 1 rfl) ?_
  refine lv_iload_n hx hb d_Li_init_3 rfl (lv_at hl 2 rfl) ?_
  have ⟨h4, hf⟩ := gd_e hf
  have ⟨x1, w2, h3, hf⟩ := kl_e hf
  refine g_kv0 (g_rI (As := [.int 4, .int a1, .int a2]) (rest := []) hx hb hml hown hts hK hR hS (c_E_init l D cA oc B N a0 4 a1 a2 w h3) I_E_init rfl m_338 rfl rfl (Nat.le_of_ble_eq_true rfl) hl.1 ⟨Nat.le_of_ble_eq_true rfl, Nat.le_of_ble_eq_true rfl⟩ ⟨Nat.le_of_ble_eq_true rfl, Nat.le_of_ble_eq_true rfl⟩ d_Li_init_4) hS (fun H locs hR hS => ?_)
  exact g_vret hx hb hr hlocks hR hS hf d_Li_init_7
theorem c_Li_init (l : Launch) (D : va_G) (cA : Nat → ClassId) (oc : gO) (B N : Nat) (a0 : Nat) (a1 : Int32) (a2 : Int32) (w : gW) {wz : gW} {r : Unit} (hf : f_Li_init N a0 a1 a2 w = some (r, wz)) : Met l y_Li_init (Cond.code y_Li_init b_Li_init 3 none :: lw_good) ({ frames := 3, cells := 0, slots := 0, locals := 106 } : Room) (gPre D cA oc B [.ref (B + a0), .int a1, .int a2] w) (gQv D cA B r wz) 0 0 (gA B) := by
  refine Met.ofW (cc := b_Li_init) (maxL := 3) (ret := none) (by decide +kernel) rfl ?_
  intro p e s m args below meth c s₁ Bd hml hv
  obtain ⟨hargs, C, hR⟩ := gC.enter (l := l) rfl Bd hml hv
  have hin : meth.name = "<init>" := (name_of_methodNamed Bd.named Bd.method).1
  subst hargs
  have hl := lv_entry ([.ref (B + a0), .int a1, .int a2]) (n := 3) (Nat.le_of_ble_eq_true rfl)
  rw [lg_entry_eq]
  generalize (lg_sl ([.ref (B + a0), .int a1, .int a2]) ++ List.replicate (3 - (lg_sl ([.ref (B + a0), .int a1, .int a2])).length) Slot.unset).toArray = ls at hl ⊢
  have hl : lv_has ls 3 [(0, .ref (B + a0)), (1, .int a1), (2, .int a2)] := hl
  exact c_Li_init_b0 C hin a0 a1 a2 w (lv_sub hl [0, 1, 2] rfl) hf hR va_S.rf
theorem d_Li_rank_0 : decode b_Li_rank 0 = .ok (.aload_n 1, 1) := by decide +kernel
theorem d_Li_rank_1 : decode b_Li_rank 1 = .ok (.invokevirtual 9, 3) := by decide +kernel
theorem d_Li_rank_4 : decode b_Li_rank 4 = .ok (.i2l, 1) := by decide +kernel
theorem d_Li_rank_5 : decode b_Li_rank 5 = .ok (.lreturn, 1) := by decide +kernel
set_option maxRecDepth 20000 in
theorem c_Li_rank_b0 {r : Int64} {wz : gW} (C : gC p s m args meth c "RidCoppers$Light" b_Li_rank 2 (some .long) D cA oc B) (a1 : Nat) (w : gW) {ls : Array Slot} {H : Heap} {locs : List Loc} (hl : lv_has ls 2 [(1, .ref (B + a1))]) (hf : f_Li_rank_b0 N a1 w = some (r, wz)) (hR : gRep D cA B w H) (hS : va_S (gA B) s.heap H locs) : W p l e ({ frames := 3, cells := 0, slots := 0, locals := 83 } : Room) s m args below meth c H locs 0 0 (MQ below (gQl D cA B r wz) args s 0 0 (gA B)) (F0 m 0 ls []) := by
  obtain ⟨hx, hb, hml, hown, hts, hr, hlocks, hK, hBs⟩ := id C
  unfold f_Li_rank_b0 at hf
  refine lv_aload_n hx hb d_Li_rank_0 rfl (lv_at hl 0 rfl) ?_
  have ⟨h4, hf⟩ := gd_e hf
  have ⟨x1, w2, h3, hf⟩ := kl_e hf
  refine g_ki0 (g_rV (As := []) (rest := []) hx hb hml hown hts hK hR hS (c_Pm_weightBehind l D cA oc B N a1 w h3) I_Pm_weightBehind m_674 m_676 (gRecv hK hR (ci := 10) rfl h4) rfl rfl (Nat.le_of_ble_eq_true rfl) hl.1 ⟨Nat.le_of_ble_eq_true rfl, Nat.le_of_ble_eq_true rfl⟩ ⟨Nat.le_of_ble_eq_true rfl, Nat.le_of_ble_eq_true rfl⟩ d_Li_rank_1) hS (fun H locs hR hS => ?_)
  refine lv_i2l hx hb d_Li_rank_4 rfl ?_
  refine g_nL hf (fun x5 hf => ?_)
  exact g_lret hx hb hr hlocks hR hS hf d_Li_rank_5
theorem c_Li_rank (l : Launch) (D : va_G) (cA : Nat → ClassId) (oc : gO) (B N : Nat) (a0 : Nat) (a1 : Nat) (w : gW) {wz : gW} {r : Int64} (hf : f_Li_rank N a0 a1 w = some (r, wz)) : Met l y_Li_rank (Cond.code y_Li_rank b_Li_rank 2 (some .long) :: lw_good) ({ frames := 3, cells := 0, slots := 0, locals := 83 } : Room) (gPre D cA oc B [.ref (B + a0), .ref (B + a1)] w) (gQl D cA B r wz) 0 0 (gA B) := by
  refine Met.ofW (cc := b_Li_rank) (maxL := 2) (ret := (some .long)) (by decide +kernel) rfl ?_
  intro p e s m args below meth c s₁ Bd hml hv
  obtain ⟨hargs, C, hR⟩ := gC.enter (l := l) rfl Bd hml hv
  subst hargs
  have hl := lv_entry ([.ref (B + a0), .ref (B + a1)]) (n := 2) (Nat.le_of_ble_eq_true rfl)
  rw [lg_entry_eq]
  generalize (lg_sl ([.ref (B + a0), .ref (B + a1)]) ++ List.replicate (2 - (lg_sl ([.ref (B + a0), .ref (B + a1)])).length) Slot.unset).toArray = ls at hl ⊢
  have hl : lv_has ls 2 [(0, .ref (B + a0)), (1, .ref (B + a1))] := hl
  exact c_Li_rank_b0 C a1 w (lv_sub hl [1] rfl) hf hR va_S.rf
theorem d_Li_thinksOfWeight_0 : decode b_Li_thinksOfWeight 0 = .ok (.iconst 1, 1) := by decide +kernel
theorem d_Li_thinksOfWeight_1 : decode b_Li_thinksOfWeight 1 = .ok (.ireturn, 1) := by decide +kernel
set_option maxRecDepth 20000 in
theorem c_Li_thinksOfWeight_b0 {r : Int32} {wz : gW} (C : gC p s m args meth c "RidCoppers$Light" b_Li_thinksOfWeight 1 (some .boolean) D cA oc B) (w : gW) {ls : Array Slot} {H : Heap} {locs : List Loc} (hl : lv_has ls 1 []) (hf : f_Li_thinksOfWeight_b0 N w = some (r, wz)) (hR : gRep D cA B w H) (hS : va_S (gA B) s.heap H locs) : W p l e ({ frames := 1, cells := 0, slots := 0, locals := 40 } : Room) s m args below meth c H locs 0 0 (MQ below (gQi D cA B r wz) args s 0 0 (gA B)) (F0 m 0 ls []) := by
  obtain ⟨hx, hb, hml, hown, hts, hr, hlocks, hK, hBs⟩ := id C
  unfold f_Li_thinksOfWeight_b0 at hf
  refine lv_iconst (v := 1) hx hb d_Li_thinksOfWeight_0 (by decide) ?_
  exact g_iret hx hb hr hlocks hR hS hf rfl d_Li_thinksOfWeight_1
theorem c_Li_thinksOfWeight (l : Launch) (D : va_G) (cA : Nat → ClassId) (oc : gO) (B N : Nat) (a0 : Nat) (w : gW) {wz : gW} {r : Int32} (hf : f_Li_thinksOfWeight N a0 w = some (r, wz)) : Met l y_Li_thinksOfWeight (Cond.code y_Li_thinksOfWeight b_Li_thinksOfWeight 1 (some .boolean) :: lw_good) ({ frames := 1, cells := 0, slots := 0, locals := 40 } : Room) (gPre D cA oc B [.ref (B + a0)] w) (gQi D cA B r wz) 0 0 (gA B) := by
  refine Met.ofW (cc := b_Li_thinksOfWeight) (maxL := 1) (ret := (some .boolean)) (by decide +kernel) rfl ?_
  intro p e s m args below meth c s₁ Bd hml hv
  obtain ⟨hargs, C, hR⟩ := gC.enter (l := l) rfl Bd hml hv
  subst hargs
  have hl := lv_entry ([.ref (B + a0)]) (n := 1) (Nat.le_of_ble_eq_true rfl)
  rw [lg_entry_eq]
  generalize (lg_sl ([.ref (B + a0)]) ++ List.replicate (1 - (lg_sl ([.ref (B + a0)])).length) Slot.unset).toArray = ls at hl ⊢
  have hl : lv_has ls 1 [(0, .ref (B + a0))] := hl
  exact c_Li_thinksOfWeight_b0 C w (lv_sub hl [] rfl) hf hR va_S.rf
theorem d_P_partsWith_0 : decode b_P_partsWith 0 = .ok (.iconst 1, 1) := by decide +kernel
theorem d_P_partsWith_1 : decode b_P_partsWith 1 = .ok (.ireturn, 1) := by decide +kernel
set_option maxRecDepth 20000 in
theorem c_P_partsWith_b0 {r : Int32} {wz : gW} (C : gC p s m args meth c "RidCoppers$Payer" b_P_partsWith 3 (some .boolean) D cA oc B) (w : gW) {ls : Array Slot} {H : Heap} {locs : List Loc} (hl : lv_has ls 3 []) (hf : f_P_partsWith_b0 N w = some (r, wz)) (hR : gRep D cA B w H) (hS : va_S (gA B) s.heap H locs) : W p l e ({ frames := 1, cells := 0, slots := 0, locals := 40 } : Room) s m args below meth c H locs 0 0 (MQ below (gQi D cA B r wz) args s 0 0 (gA B)) (F0 m 0 ls []) := by
  obtain ⟨hx, hb, hml, hown, hts, hr, hlocks, hK, hBs⟩ := id C
  unfold f_P_partsWith_b0 at hf
  refine lv_iconst (v := 1) hx hb d_P_partsWith_0 (by decide) ?_
  exact g_iret hx hb hr hlocks hR hS hf rfl d_P_partsWith_1
theorem c_P_partsWith (l : Launch) (D : va_G) (cA : Nat → ClassId) (oc : gO) (B N : Nat) (a0 : Nat) (a1 : Nat) (a2 : Int32) (w : gW) {wz : gW} {r : Int32} (hf : f_P_partsWith N a0 a1 a2 w = some (r, wz)) : Met l y_P_partsWith (Cond.code y_P_partsWith b_P_partsWith 3 (some .boolean) :: lw_good) ({ frames := 1, cells := 0, slots := 0, locals := 40 } : Room) (gPre D cA oc B [.ref (B + a0), .ref (B + a1), .int a2] w) (gQi D cA B r wz) 0 0 (gA B) := by
  refine Met.ofW (cc := b_P_partsWith) (maxL := 3) (ret := (some .boolean)) (by decide +kernel) rfl ?_
  intro p e s m args below meth c s₁ Bd hml hv
  obtain ⟨hargs, C, hR⟩ := gC.enter (l := l) rfl Bd hml hv
  subst hargs
  have hl := lv_entry ([.ref (B + a0), .ref (B + a1), .int a2]) (n := 3) (Nat.le_of_ble_eq_true rfl)
  rw [lg_entry_eq]
  generalize (lg_sl ([.ref (B + a0), .ref (B + a1), .int a2]) ++ List.replicate (3 - (lg_sl ([.ref (B + a0), .ref (B + a1), .int a2])).length) Slot.unset).toArray = ls at hl ⊢
  have hl : lv_has ls 3 [(0, .ref (B + a0)), (1, .ref (B + a1)), (2, .int a2)] := hl
  exact c_P_partsWith_b0 C w (lv_sub hl [] rfl) hf hR va_S.rf
theorem d_P_rank_0 : decode b_P_rank 0 = .ok (.aload_n 1, 1) := by decide +kernel
theorem d_P_rank_1 : decode b_P_rank 1 = .ok (.getfield 19, 3) := by decide +kernel
theorem d_P_rank_4 : decode b_P_rank 4 = .ok (.aload_n 1, 1) := by decide +kernel
theorem d_P_rank_5 : decode b_P_rank 5 = .ok (.getfield 24, 3) := by decide +kernel
theorem d_P_rank_8 : decode b_P_rank 8 = .ok (.invokestatic 27, 3) := by decide +kernel
theorem d_P_rank_11 : decode b_P_rank 11 = .ok (.lreturn, 1) := by decide +kernel
set_option maxRecDepth 20000 in
theorem c_P_rank_b0 {r : Int64} {wz : gW} (C : gC p s m args meth c "RidCoppers$Payer" b_P_rank 2 (some .long) D cA oc B) (a1 : Nat) (w : gW) {ls : Array Slot} {H : Heap} {locs : List Loc} (hl : lv_has ls 2 [(1, .ref (B + a1))]) (hf : f_P_rank_b0 N a1 w = some (r, wz)) (hR : gRep D cA B w H) (hS : va_S (gA B) s.heap H locs) : W p l e ({ frames := 2, cells := 0, slots := 0, locals := 61 } : Room) s m args below meth c H locs 0 0 (MQ below (gQl D cA B r wz) args s 0 0 (gA B)) (F0 m 0 ls []) := by
  obtain ⟨hx, hb, hml, hown, hts, hr, hlocks, hK, hBs⟩ := id C
  unfold f_P_rank_b0 at hf
  refine lv_aload_n hx hb d_P_rank_0 rfl (lv_at hl 0 rfl) ?_
  have ⟨h1, hf⟩ := gd_e hf
  refine g_getI hx hb hts hown hK hR fl_P_19 (fun _ => rfl) h1 d_P_rank_1 ?_
  refine g_nI hf (fun x2 hf => ?_)
  refine lv_aload_n hx hb d_P_rank_4 rfl (lv_at hl 0 rfl) ?_
  refine g_getI hx hb hts hown hK hR fl_P_24 (fun _ => rfl) h1 d_P_rank_5 ?_
  refine g_nI hf (fun x3 hf => ?_)
  have ⟨x4, w5, h6, hf⟩ := kl_e hf
  refine g_kl0 (g_rS (As := [.int x2, .int x3]) (rest := []) hx hb hml hown hts hK hR hS (c_P_ranked l D cA oc B N x2 x3 w h6) I_P_ranked m_694 rfl rfl (Nat.le_of_ble_eq_true rfl) hl.1 ⟨Nat.le_of_ble_eq_true rfl, Nat.le_of_ble_eq_true rfl⟩ ⟨Nat.le_of_ble_eq_true rfl, Nat.le_of_ble_eq_true rfl⟩ d_P_rank_8) hS (fun H locs hR hS => ?_)
  exact g_lret hx hb hr hlocks hR hS hf d_P_rank_11
theorem c_P_rank (l : Launch) (D : va_G) (cA : Nat → ClassId) (oc : gO) (B N : Nat) (a0 : Nat) (a1 : Nat) (w : gW) {wz : gW} {r : Int64} (hf : f_P_rank N a0 a1 w = some (r, wz)) : Met l y_P_rank (Cond.code y_P_rank b_P_rank 2 (some .long) :: lw_good) ({ frames := 2, cells := 0, slots := 0, locals := 61 } : Room) (gPre D cA oc B [.ref (B + a0), .ref (B + a1)] w) (gQl D cA B r wz) 0 0 (gA B) := by
  refine Met.ofW (cc := b_P_rank) (maxL := 2) (ret := (some .long)) (by decide +kernel) rfl ?_
  intro p e s m args below meth c s₁ Bd hml hv
  obtain ⟨hargs, C, hR⟩ := gC.enter (l := l) rfl Bd hml hv
  subst hargs
  have hl := lv_entry ([.ref (B + a0), .ref (B + a1)]) (n := 2) (Nat.le_of_ble_eq_true rfl)
  rw [lg_entry_eq]
  generalize (lg_sl ([.ref (B + a0), .ref (B + a1)]) ++ List.replicate (2 - (lg_sl ([.ref (B + a0), .ref (B + a1)])).length) Slot.unset).toArray = ls at hl ⊢
  have hl : lv_has ls 2 [(0, .ref (B + a0)), (1, .ref (B + a1))] := hl
  exact c_P_rank_b0 C a1 w (lv_sub hl [1] rfl) hf hR va_S.rf
theorem d_P_thinksOfWeight_0 : decode b_P_thinksOfWeight 0 = .ok (.iconst 0, 1) := by decide +kernel
theorem d_P_thinksOfWeight_1 : decode b_P_thinksOfWeight 1 = .ok (.ireturn, 1) := by decide +kernel
set_option maxRecDepth 20000 in
theorem c_P_thinksOfWeight_b0 {r : Int32} {wz : gW} (C : gC p s m args meth c "RidCoppers$Payer" b_P_thinksOfWeight 1 (some .boolean) D cA oc B) (w : gW) {ls : Array Slot} {H : Heap} {locs : List Loc} (hl : lv_has ls 1 []) (hf : f_P_thinksOfWeight_b0 N w = some (r, wz)) (hR : gRep D cA B w H) (hS : va_S (gA B) s.heap H locs) : W p l e ({ frames := 1, cells := 0, slots := 0, locals := 40 } : Room) s m args below meth c H locs 0 0 (MQ below (gQi D cA B r wz) args s 0 0 (gA B)) (F0 m 0 ls []) := by
  obtain ⟨hx, hb, hml, hown, hts, hr, hlocks, hK, hBs⟩ := id C
  unfold f_P_thinksOfWeight_b0 at hf
  refine lv_iconst (v := 0) hx hb d_P_thinksOfWeight_0 (by decide) ?_
  exact g_iret hx hb hr hlocks hR hS hf rfl d_P_thinksOfWeight_1
theorem c_P_thinksOfWeight (l : Launch) (D : va_G) (cA : Nat → ClassId) (oc : gO) (B N : Nat) (a0 : Nat) (w : gW) {wz : gW} {r : Int32} (hf : f_P_thinksOfWeight N a0 w = some (r, wz)) : Met l y_P_thinksOfWeight (Cond.code y_P_thinksOfWeight b_P_thinksOfWeight 1 (some .boolean) :: lw_good) ({ frames := 1, cells := 0, slots := 0, locals := 40 } : Room) (gPre D cA oc B [.ref (B + a0)] w) (gQi D cA B r wz) 0 0 (gA B) := by
  refine Met.ofW (cc := b_P_thinksOfWeight) (maxL := 1) (ret := (some .boolean)) (by decide +kernel) rfl ?_
  intro p e s m args below meth c s₁ Bd hml hv
  obtain ⟨hargs, C, hR⟩ := gC.enter (l := l) rfl Bd hml hv
  subst hargs
  have hl := lv_entry ([.ref (B + a0)]) (n := 1) (Nat.le_of_ble_eq_true rfl)
  rw [lg_entry_eq]
  generalize (lg_sl ([.ref (B + a0)]) ++ List.replicate (1 - (lg_sl ([.ref (B + a0)])).length) Slot.unset).toArray = ls at hl ⊢
  have hl : lv_has ls 1 [(0, .ref (B + a0))] := hl
  exact c_P_thinksOfWeight_b0 C w (lv_sub hl [] rfl) hf hR va_S.rf
theorem d_To_partsWith_0 : decode b_To_partsWith 0 = .ok (.iload_n 2, 1) := by decide +kernel
theorem d_To_partsWith_1 : decode b_To_partsWith 1 = .ok (.aload_n 1, 1) := by decide +kernel
theorem d_To_partsWith_2 : decode b_To_partsWith 2 = .ok (.getfield 9, 3) := by decide +kernel
theorem d_To_partsWith_5 : decode b_To_partsWith 5 = .ok (.aload_n 0, 1) := by decide +kernel
theorem d_To_partsWith_6 : decode b_To_partsWith 6 = .ok (.getfield 15, 3) := by decide +kernel
theorem d_To_partsWith_9 : decode b_To_partsWith 9 = .ok (.aaload, 1) := by decide +kernel
theorem d_To_partsWith_10 : decode b_To_partsWith 10 = .ok (.aload_n 1, 1) := by decide +kernel
theorem d_To_partsWith_11 : decode b_To_partsWith 11 = .ok (.getfield 21, 3) := by decide +kernel
theorem d_To_partsWith_14 : decode b_To_partsWith 14 = .ok (.aload_n 0, 1) := by decide +kernel
theorem d_To_partsWith_15 : decode b_To_partsWith 15 = .ok (.getfield 15, 3) := by decide +kernel
theorem d_To_partsWith_18 : decode b_To_partsWith 18 = .ok (.iaload, 1) := by decide +kernel
theorem d_To_partsWith_19 : decode b_To_partsWith 19 = .ok (.iconst 4, 1) := by decide +kernel
theorem d_To_partsWith_20 : decode b_To_partsWith 20 = .ok (.irem, 1) := by decide +kernel
theorem d_To_partsWith_21 : decode b_To_partsWith 21 = .ok (.iaload, 1) := by decide +kernel
theorem d_To_partsWith_22 : decode b_To_partsWith 22 = .ok (.if_icmp .eq 7, 3) := by decide +kernel
theorem d_To_partsWith_25 : decode b_To_partsWith 25 = .ok (.iconst 1, 1) := by decide +kernel
theorem d_To_partsWith_26 : decode b_To_partsWith 26 = .ok (.goto 4, 3) := by decide +kernel
theorem d_To_partsWith_29 : decode b_To_partsWith 29 = .ok (.iconst 0, 1) := by decide +kernel
theorem d_To_partsWith_30 : decode b_To_partsWith 30 = .ok (.ireturn, 1) := by decide +kernel
set_option maxRecDepth 20000 in
theorem c_To_partsWith_b0 {r : Int32} {wz : gW} (C : gC p s m args meth c "RidCoppers$Told" b_To_partsWith 3 (some .boolean) D cA oc B) (a0 : Nat) (a1 : Nat) (a2 : Int32) (w : gW) {ls : Array Slot} {H : Heap} {locs : List Loc} (hl : lv_has ls 3 [(0, .ref (B + a0)), (1, .ref (B + a1)), (2, .int a2)]) (hf : f_To_partsWith_b0 N a0 a1 a2 w = some (r, wz)) (hR : gRep D cA B w H) (hS : va_S (gA B) s.heap H locs) : W p l e ({ frames := 1, cells := 0, slots := 0, locals := 40 } : Room) s m args below meth c H locs 0 0 (MQ below (gQi D cA B r wz) args s 0 0 (gA B)) (F0 m 0 ls []) := by
  obtain ⟨hx, hb, hml, hown, hts, hr, hlocks, hK, hBs⟩ := id C
  unfold f_To_partsWith_b0 at hf
  refine lv_iload_n hx hb d_To_partsWith_0 rfl (lv_at hl 2 rfl) ?_
  refine lv_aload_n hx hb d_To_partsWith_1 rfl (lv_at hl 1 rfl) ?_
  have ⟨h1, hf⟩ := gd_e hf
  have ⟨x2, h3, hf⟩ := rr_e hf
  refine g_getR hx hb hts hown hK hR fl_To_9 (fun _ => rfl) h1 h3 d_To_partsWith_2 ?_
  refine lv_aload_n hx hb d_To_partsWith_5 rfl (lv_at hl 0 rfl) ?_
  have ⟨h4, hf⟩ := gd_e hf
  refine g_getI hx hb hts hown hK hR (flP_To_15 _ h4) (payv h4) rfl d_To_partsWith_6 ?_
  refine g_nI hf (fun x5 hf => ?_)
  have ⟨h6, hf⟩ := gd_e hf
  have ⟨h7, hf⟩ := gd_e hf
  have ⟨x8, h9, hf⟩ := rr_e hf
  refine g_aald hx hb hK hR (by decide) rfl (fun _ _ => rfl) h6 h7 h9 d_To_partsWith_9 ?_
  refine lv_aload_n hx hb d_To_partsWith_10 rfl (lv_at hl 1 rfl) ?_
  have ⟨x10, h11, hf⟩ := rr_e hf
  refine g_getR hx hb hts hown hK hR fl_To_21 (fun _ => rfl) h1 h11 d_To_partsWith_11 ?_
  refine lv_aload_n hx hb d_To_partsWith_14 rfl (lv_at hl 0 rfl) ?_
  refine g_getI hx hb hts hown hK hR (flP_To_15 _ h4) (payv h4) rfl d_To_partsWith_15 ?_
  refine g_nI hf (fun x12 hf => ?_)
  have ⟨h13, hf⟩ := gd_e hf
  have ⟨h14, hf⟩ := gd_e hf
  refine g_iald hx hb hK hR h13 h14 d_To_partsWith_18 ?_
  refine g_nI hf (fun x15 hf => ?_)
  refine lv_iconst (v := 4) hx hb d_To_partsWith_19 (by decide) ?_
  refine lv_irem hx hb d_To_partsWith_20 (by decide) ?_
  refine g_nI hf (fun x16 hf => ?_)
  have ⟨h17, hf⟩ := gd_e hf
  have ⟨h18, hf⟩ := gd_e hf
  refine g_iald hx hb hK hR h17 h18 d_To_partsWith_21 ?_
  refine g_nI hf (fun x19 hf => ?_)
  refine lv_icmp_eq (tgt := 29) hx hb d_To_partsWith_22 (by decide) (fun hc => ?_) (fun hc => ?_)
  · have hf := cd_t hc hf
    refine lv_iconst (v := 0) hx hb d_To_partsWith_29 (by decide) ?_
    exact g_iret hx hb hr hlocks hR hS hf rfl d_To_partsWith_30
  have hf := cd_f hc hf
  refine lv_iconst (v := 1) hx hb d_To_partsWith_25 (by decide) ?_
  refine lv_goto (tgt := 30) hx hb d_To_partsWith_26 (by decide) ?_
  exact g_iret hx hb hr hlocks hR hS hf rfl d_To_partsWith_30
theorem c_To_partsWith (l : Launch) (D : va_G) (cA : Nat → ClassId) (oc : gO) (B N : Nat) (a0 : Nat) (a1 : Nat) (a2 : Int32) (w : gW) {wz : gW} {r : Int32} (hf : f_To_partsWith N a0 a1 a2 w = some (r, wz)) : Met l y_To_partsWith (Cond.code y_To_partsWith b_To_partsWith 3 (some .boolean) :: lw_good) ({ frames := 1, cells := 0, slots := 0, locals := 40 } : Room) (gPre D cA oc B [.ref (B + a0), .ref (B + a1), .int a2] w) (gQi D cA B r wz) 0 0 (gA B) := by
  refine Met.ofW (cc := b_To_partsWith) (maxL := 3) (ret := (some .boolean)) (by decide +kernel) rfl ?_
  intro p e s m args below meth c s₁ Bd hml hv
  obtain ⟨hargs, C, hR⟩ := gC.enter (l := l) rfl Bd hml hv
  subst hargs
  have hl := lv_entry ([.ref (B + a0), .ref (B + a1), .int a2]) (n := 3) (Nat.le_of_ble_eq_true rfl)
  rw [lg_entry_eq]
  generalize (lg_sl ([.ref (B + a0), .ref (B + a1), .int a2]) ++ List.replicate (3 - (lg_sl ([.ref (B + a0), .ref (B + a1), .int a2])).length) Slot.unset).toArray = ls at hl ⊢
  have hl : lv_has ls 3 [(0, .ref (B + a0)), (1, .ref (B + a1)), (2, .int a2)] := hl
  exact c_To_partsWith_b0 C a0 a1 a2 w (lv_sub hl [0, 1, 2] rfl) hf hR va_S.rf
theorem d_Ro_rank_0 : decode b_Ro_rank 0 = .ok (.aload_n 1, 1) := by decide +kernel
theorem d_Ro_rank_1 : decode b_Ro_rank 1 = .ok (.getfield 7, 3) := by decide +kernel
theorem d_Ro_rank_4 : decode b_Ro_rank 4 = .ok (.aload_n 1, 1) := by decide +kernel
theorem d_Ro_rank_5 : decode b_Ro_rank 5 = .ok (.getfield 13, 3) := by decide +kernel
theorem d_Ro_rank_8 : decode b_Ro_rank 8 = .ok (.invokestatic 16, 3) := by decide +kernel
theorem d_Ro_rank_11 : decode b_Ro_rank 11 = .ok (.lreturn, 1) := by decide +kernel
set_option maxRecDepth 20000 in
theorem c_Ro_rank_b0 {r : Int64} {wz : gW} (C : gC p s m args meth c "RidCoppers$Rough" b_Ro_rank 2 (some .long) D cA oc B) (a1 : Nat) (w : gW) {ls : Array Slot} {H : Heap} {locs : List Loc} (hl : lv_has ls 2 [(1, .ref (B + a1))]) (hf : f_Ro_rank_b0 N a1 w = some (r, wz)) (hR : gRep D cA B w H) (hS : va_S (gA B) s.heap H locs) : W p l e ({ frames := 2, cells := 0, slots := 0, locals := 61 } : Room) s m args below meth c H locs 0 0 (MQ below (gQl D cA B r wz) args s 0 0 (gA B)) (F0 m 0 ls []) := by
  obtain ⟨hx, hb, hml, hown, hts, hr, hlocks, hK, hBs⟩ := id C
  unfold f_Ro_rank_b0 at hf
  refine lv_aload_n hx hb d_Ro_rank_0 rfl (lv_at hl 0 rfl) ?_
  have ⟨h1, hf⟩ := gd_e hf
  refine g_getI hx hb hts hown hK hR fl_Ro_7 (fun _ => rfl) h1 d_Ro_rank_1 ?_
  refine g_nI hf (fun x2 hf => ?_)
  refine lv_aload_n hx hb d_Ro_rank_4 rfl (lv_at hl 0 rfl) ?_
  refine g_getI hx hb hts hown hK hR fl_Ro_13 (fun _ => rfl) h1 d_Ro_rank_5 ?_
  refine g_nI hf (fun x3 hf => ?_)
  have ⟨x4, w5, h6, hf⟩ := kl_e hf
  refine g_kl0 (g_rSX0 (x := ⟨"RidCoppers$Rough", "ranked", "(II)J"⟩) (owner := "RidCoppers$Payer") (As := [.int x2, .int x3]) (rest := []) hx hb hml hown hts hK hR hS (c_P_ranked l D cA oc B N x2 x3 w h6) I_P_ranked m_685 m_686 rfl rfl (Nat.le_of_ble_eq_true rfl) hl.1 ⟨Nat.le_of_ble_eq_true rfl, Nat.le_of_ble_eq_true rfl⟩ ⟨Nat.le_of_ble_eq_true rfl, Nat.le_of_ble_eq_true rfl⟩ d_Ro_rank_8) hS (fun H locs hR hS => ?_)
  exact g_lret hx hb hr hlocks hR hS hf d_Ro_rank_11
theorem c_Ro_rank (l : Launch) (D : va_G) (cA : Nat → ClassId) (oc : gO) (B N : Nat) (a0 : Nat) (a1 : Nat) (w : gW) {wz : gW} {r : Int64} (hf : f_Ro_rank N a0 a1 w = some (r, wz)) : Met l y_Ro_rank (Cond.code y_Ro_rank b_Ro_rank 2 (some .long) :: lw_good) ({ frames := 2, cells := 0, slots := 0, locals := 61 } : Room) (gPre D cA oc B [.ref (B + a0), .ref (B + a1)] w) (gQl D cA B r wz) 0 0 (gA B) := by
  refine Met.ofW (cc := b_Ro_rank) (maxL := 2) (ret := (some .long)) (by decide +kernel) rfl ?_
  intro p e s m args below meth c s₁ Bd hml hv
  obtain ⟨hargs, C, hR⟩ := gC.enter (l := l) rfl Bd hml hv
  subst hargs
  have hl := lv_entry ([.ref (B + a0), .ref (B + a1)]) (n := 2) (Nat.le_of_ble_eq_true rfl)
  rw [lg_entry_eq]
  generalize (lg_sl ([.ref (B + a0), .ref (B + a1)]) ++ List.replicate (2 - (lg_sl ([.ref (B + a0), .ref (B + a1)])).length) Slot.unset).toArray = ls at hl ⊢
  have hl : lv_has ls 2 [(0, .ref (B + a0)), (1, .ref (B + a1))] := hl
  exact c_Ro_rank_b0 C a1 w (lv_sub hl [1] rfl) hf hR va_S.rf
theorem d_Wi_rank_0 : decode b_Wi_rank 0 = .ok (.aload_n 1, 1) := by decide +kernel
theorem d_Wi_rank_1 : decode b_Wi_rank 1 = .ok (.getfield 9, 3) := by decide +kernel
theorem d_Wi_rank_4 : decode b_Wi_rank 4 = .ok (.aload_n 1, 1) := by decide +kernel
theorem d_Wi_rank_5 : decode b_Wi_rank 5 = .ok (.getfield 15, 3) := by decide +kernel
theorem d_Wi_rank_8 : decode b_Wi_rank 8 = .ok (.ineg, 1) := by decide +kernel
theorem d_Wi_rank_9 : decode b_Wi_rank 9 = .ok (.invokestatic 18, 3) := by decide +kernel
theorem d_Wi_rank_12 : decode b_Wi_rank 12 = .ok (.lreturn, 1) := by decide +kernel
set_option maxRecDepth 20000 in
theorem c_Wi_rank_b0 {r : Int64} {wz : gW} (C : gC p s m args meth c "RidCoppers$Wild" b_Wi_rank 2 (some .long) D cA oc B) (a1 : Nat) (w : gW) {ls : Array Slot} {H : Heap} {locs : List Loc} (hl : lv_has ls 2 [(1, .ref (B + a1))]) (hf : f_Wi_rank_b0 N a1 w = some (r, wz)) (hR : gRep D cA B w H) (hS : va_S (gA B) s.heap H locs) : W p l e ({ frames := 2, cells := 0, slots := 0, locals := 61 } : Room) s m args below meth c H locs 0 0 (MQ below (gQl D cA B r wz) args s 0 0 (gA B)) (F0 m 0 ls []) := by
  obtain ⟨hx, hb, hml, hown, hts, hr, hlocks, hK, hBs⟩ := id C
  unfold f_Wi_rank_b0 at hf
  refine lv_aload_n hx hb d_Wi_rank_0 rfl (lv_at hl 0 rfl) ?_
  have ⟨h1, hf⟩ := gd_e hf
  refine g_getI hx hb hts hown hK hR fl_Wi_9 (fun _ => rfl) h1 d_Wi_rank_1 ?_
  refine g_nI hf (fun x2 hf => ?_)
  refine lv_aload_n hx hb d_Wi_rank_4 rfl (lv_at hl 0 rfl) ?_
  refine g_getI hx hb hts hown hK hR fl_Wi_15 (fun _ => rfl) h1 d_Wi_rank_5 ?_
  refine g_nI hf (fun x3 hf => ?_)
  refine lv_ineg hx hb d_Wi_rank_8 ?_
  refine g_nI hf (fun x4 hf => ?_)
  have ⟨x5, w6, h7, hf⟩ := kl_e hf
  refine g_kl0 (g_rSX0 (x := ⟨"RidCoppers$Wild", "ranked", "(II)J"⟩) (owner := "RidCoppers$Payer") (As := [.int x2, .int x4]) (rest := []) hx hb hml hown hts hK hR hS (c_P_ranked l D cA oc B N x2 x4 w h7) I_P_ranked m_691 m_692 rfl rfl (Nat.le_of_ble_eq_true rfl) hl.1 ⟨Nat.le_of_ble_eq_true rfl, Nat.le_of_ble_eq_true rfl⟩ ⟨Nat.le_of_ble_eq_true rfl, Nat.le_of_ble_eq_true rfl⟩ d_Wi_rank_9) hS (fun H locs hR hS => ?_)
  exact g_lret hx hb hr hlocks hR hS hf d_Wi_rank_12
theorem c_Wi_rank (l : Launch) (D : va_G) (cA : Nat → ClassId) (oc : gO) (B N : Nat) (a0 : Nat) (a1 : Nat) (w : gW) {wz : gW} {r : Int64} (hf : f_Wi_rank N a0 a1 w = some (r, wz)) : Met l y_Wi_rank (Cond.code y_Wi_rank b_Wi_rank 2 (some .long) :: lw_good) ({ frames := 2, cells := 0, slots := 0, locals := 61 } : Room) (gPre D cA oc B [.ref (B + a0), .ref (B + a1)] w) (gQl D cA B r wz) 0 0 (gA B) := by
  refine Met.ofW (cc := b_Wi_rank) (maxL := 2) (ret := (some .long)) (by decide +kernel) rfl ?_
  intro p e s m args below meth c s₁ Bd hml hv
  obtain ⟨hargs, C, hR⟩ := gC.enter (l := l) rfl Bd hml hv
  subst hargs
  have hl := lv_entry ([.ref (B + a0), .ref (B + a1)]) (n := 2) (Nat.le_of_ble_eq_true rfl)
  rw [lg_entry_eq]
  generalize (lg_sl ([.ref (B + a0), .ref (B + a1)]) ++ List.replicate (2 - (lg_sl ([.ref (B + a0), .ref (B + a1)])).length) Slot.unset).toArray = ls at hl ⊢
  have hl : lv_has ls 2 [(0, .ref (B + a0)), (1, .ref (B + a1))] := hl
  exact c_Wi_rank_b0 C a1 w (lv_sub hl [1] rfl) hf hR va_S.rf
theorem d_Ro_init_0 : decode b_Ro_init 0 = .ok (.aload_n 0, 1) := by decide +kernel
theorem d_Ro_init_1 : decode b_Ro_init 1 = .ok (.iload_n 1, 1) := by decide +kernel
theorem d_Ro_init_2 : decode b_Ro_init 2 = .ok (.iload_n 2, 1) := by decide +kernel
theorem d_Ro_init_3 : decode b_Ro_init 3 = .ok (.iload_n 3, 1) := by decide +kernel
theorem d_Ro_init_4 : decode b_Ro_init 4 = .ok (.invokespecial 1, 3) := by decide +kernel
theorem d_Ro_init_7 : decode b_Ro_init 7 = .ok (.return_, 1) := by decide +kernel
set_option maxRecDepth 20000 in
theorem c_Ro_init_b0 {r : Unit} {wz : gW} (C : gC p s m args meth c "RidCoppers$Rough" b_Ro_init 4 none D cA oc B) (hin : meth.name = "<init>") (a0 : Nat) (a1 : Int32) (a2 : Int32) (a3 : Int32) (w : gW) {ls : Array Slot} {H : Heap} {locs : List Loc} (hl : lv_has ls 4 [(0, .ref (B + a0)), (1, .int a1), (2, .int a2), (3, .int a3)]) (hf : f_Ro_init_b0 N a0 a1 a2 a3 w = some (r, wz)) (hR : gRep D cA B w H) (hS : va_S (gA B) s.heap H locs) : W p l e ({ frames := 2, cells := 0, slots := 0, locals := 83 } : Room) s m args below meth c H locs 0 0 (MQ below (gQv D cA B r wz) args s 0 0 (gA B)) (F0 m 0 ls []) := by
  obtain ⟨hx, hb, hml, hown, hts, hr, hlocks, hK, hBs⟩ := id C
  unfold f_Ro_init_b0 at hf
  refine lv_aload_n hx hb d_Ro_init_0 rfl (lv_at hl 0 rfl) ?_
  refine lv_iload_n hx hb d_Ro_init_1 rfl (lv_at hl 1 rfl) ?_
  refine lv_iload_n hx hb d_Ro_init_2 rfl (lv_at hl 2 rfl) ?_
  refine lv_iload_n hx hb d_Ro_init_3 rfl (lv_at hl 3 rfl) ?_
  have ⟨h4, hf⟩ := gd_e hf
  have ⟨x1, w2, h3, hf⟩ := kl_e hf
  refine g_kv0 (g_rI (As := [.int a1, .int a2, .int a3]) (rest := []) hx hb hml hown hts hK hR hS (c_P_init l D cA oc B N a0 a1 a2 a3 w h3) I_P_init rfl m_318 rfl rfl (Nat.le_of_ble_eq_true rfl) hl.1 ⟨Nat.le_of_ble_eq_true rfl, Nat.le_of_ble_eq_true rfl⟩ ⟨Nat.le_of_ble_eq_true rfl, Nat.le_of_ble_eq_true rfl⟩ d_Ro_init_4) hS (fun H locs hR hS => ?_)
  exact g_vret hx hb hr hlocks hR hS hf d_Ro_init_7
theorem c_Ro_init (l : Launch) (D : va_G) (cA : Nat → ClassId) (oc : gO) (B N : Nat) (a0 : Nat) (a1 : Int32) (a2 : Int32) (a3 : Int32) (w : gW) {wz : gW} {r : Unit} (hf : f_Ro_init N a0 a1 a2 a3 w = some (r, wz)) : Met l y_Ro_init (Cond.code y_Ro_init b_Ro_init 4 none :: lw_good) ({ frames := 2, cells := 0, slots := 0, locals := 83 } : Room) (gPre D cA oc B [.ref (B + a0), .int a1, .int a2, .int a3] w) (gQv D cA B r wz) 0 0 (gA B) := by
  refine Met.ofW (cc := b_Ro_init) (maxL := 4) (ret := none) (by decide +kernel) rfl ?_
  intro p e s m args below meth c s₁ Bd hml hv
  obtain ⟨hargs, C, hR⟩ := gC.enter (l := l) rfl Bd hml hv
  have hin : meth.name = "<init>" := (name_of_methodNamed Bd.named Bd.method).1
  subst hargs
  have hl := lv_entry ([.ref (B + a0), .int a1, .int a2, .int a3]) (n := 4) (Nat.le_of_ble_eq_true rfl)
  rw [lg_entry_eq]
  generalize (lg_sl ([.ref (B + a0), .int a1, .int a2, .int a3]) ++ List.replicate (4 - (lg_sl ([.ref (B + a0), .int a1, .int a2, .int a3])).length) Slot.unset).toArray = ls at hl ⊢
  have hl : lv_has ls 4 [(0, .ref (B + a0)), (1, .int a1), (2, .int a2), (3, .int a3)] := hl
  exact c_Ro_init_b0 C hin a0 a1 a2 a3 w (lv_sub hl [0, 1, 2, 3] rfl) hf hR va_S.rf
theorem d_To_init_0 : decode b_To_init 0 = .ok (.aload_n 0, 1) := by decide +kernel
theorem d_To_init_1 : decode b_To_init 1 = .ok (.bipush 6, 2) := by decide +kernel
theorem d_To_init_3 : decode b_To_init 3 = .ok (.iload_n 1, 1) := by decide +kernel
theorem d_To_init_4 : decode b_To_init 4 = .ok (.iload_n 2, 1) := by decide +kernel
theorem d_To_init_5 : decode b_To_init 5 = .ok (.invokespecial 3, 3) := by decide +kernel
theorem d_To_init_8 : decode b_To_init 8 = .ok (.return_, 1) := by decide +kernel
set_option maxRecDepth 20000 in
theorem c_To_init_b0 {r : Unit} {wz : gW} (C : gC p s m args meth c "RidCoppers$Told" b_To_init 3 none D cA oc B) (hin : meth.name = "<init>") (a0 : Nat) (a1 : Int32) (a2 : Int32) (w : gW) {ls : Array Slot} {H : Heap} {locs : List Loc} (hl : lv_has ls 3 [(0, .ref (B + a0)), (1, .int a1), (2, .int a2)]) (hf : f_To_init_b0 N a0 a1 a2 w = some (r, wz)) (hR : gRep D cA B w H) (hS : va_S (gA B) s.heap H locs) : W p l e ({ frames := 3, cells := 0, slots := 0, locals := 106 } : Room) s m args below meth c H locs 0 0 (MQ below (gQv D cA B r wz) args s 0 0 (gA B)) (F0 m 0 ls []) := by
  obtain ⟨hx, hb, hml, hown, hts, hr, hlocks, hK, hBs⟩ := id C
  unfold f_To_init_b0 at hf
  refine lv_aload_n hx hb d_To_init_0 rfl (lv_at hl 0 rfl) ?_
  refine lv_bipush (v := 6) hx hb d_To_init_1 (by decide) ?_
  refine lv_iload_n hx hb d_To_init_3 rfl (lv_at hl 1 rfl) ?_
  refine lv_iload_n hx hb d_To_init_4 rfl (lv_at hl 2 rfl) ?_
  have ⟨h4, hf⟩ := gd_e hf
  have ⟨x1, w2, h3, hf⟩ := kl_e hf
  refine g_kv0 (g_rI (As := [.int 6, .int a1, .int a2]) (rest := []) hx hb hml hown hts hK hR hS (c_Ke_init l D cA oc B N a0 6 a1 a2 w h3) I_Ke_init rfl m_358 rfl rfl (Nat.le_of_ble_eq_true rfl) hl.1 ⟨Nat.le_of_ble_eq_true rfl, Nat.le_of_ble_eq_true rfl⟩ ⟨Nat.le_of_ble_eq_true rfl, Nat.le_of_ble_eq_true rfl⟩ d_To_init_5) hS (fun H locs hR hS => ?_)
  exact g_vret hx hb hr hlocks hR hS hf d_To_init_8
theorem c_To_init (l : Launch) (D : va_G) (cA : Nat → ClassId) (oc : gO) (B N : Nat) (a0 : Nat) (a1 : Int32) (a2 : Int32) (w : gW) {wz : gW} {r : Unit} (hf : f_To_init N a0 a1 a2 w = some (r, wz)) : Met l y_To_init (Cond.code y_To_init b_To_init 3 none :: lw_good) ({ frames := 3, cells := 0, slots := 0, locals := 106 } : Room) (gPre D cA oc B [.ref (B + a0), .int a1, .int a2] w) (gQv D cA B r wz) 0 0 (gA B) := by
  refine Met.ofW (cc := b_To_init) (maxL := 3) (ret := none) (by decide +kernel) rfl ?_
  intro p e s m args below meth c s₁ Bd hml hv
  obtain ⟨hargs, C, hR⟩ := gC.enter (l := l) rfl Bd hml hv
  have hin : meth.name = "<init>" := (name_of_methodNamed Bd.named Bd.method).1
  subst hargs
  have hl := lv_entry ([.ref (B + a0), .int a1, .int a2]) (n := 3) (Nat.le_of_ble_eq_true rfl)
  rw [lg_entry_eq]
  generalize (lg_sl ([.ref (B + a0), .int a1, .int a2]) ++ List.replicate (3 - (lg_sl ([.ref (B + a0), .int a1, .int a2])).length) Slot.unset).toArray = ls at hl ⊢
  have hl : lv_has ls 3 [(0, .ref (B + a0)), (1, .int a1), (2, .int a2)] := hl
  exact c_To_init_b0 C hin a0 a1 a2 w (lv_sub hl [0, 1, 2] rfl) hf hR va_S.rf
theorem d_Wi_init_0 : decode b_Wi_init 0 = .ok (.aload_n 0, 1) := by decide +kernel
theorem d_Wi_init_1 : decode b_Wi_init 1 = .ok (.iconst 5, 1) := by decide +kernel
theorem d_Wi_init_2 : decode b_Wi_init 2 = .ok (.iload_n 1, 1) := by decide +kernel
theorem d_Wi_init_3 : decode b_Wi_init 3 = .ok (.iload_n 2, 1) := by decide +kernel
theorem d_Wi_init_4 : decode b_Wi_init 4 = .ok (.invokespecial 3, 3) := by decide +kernel
theorem d_Wi_init_7 : decode b_Wi_init 7 = .ok (.return_, 1) := by decide +kernel
set_option maxRecDepth 20000 in
theorem c_Wi_init_b0 {r : Unit} {wz : gW} (C : gC p s m args meth c "RidCoppers$Wild" b_Wi_init 3 none D cA oc B) (hin : meth.name = "<init>") (a0 : Nat) (a1 : Int32) (a2 : Int32) (w : gW) {ls : Array Slot} {H : Heap} {locs : List Loc} (hl : lv_has ls 3 [(0, .ref (B + a0)), (1, .int a1), (2, .int a2)]) (hf : f_Wi_init_b0 N a0 a1 a2 w = some (r, wz)) (hR : gRep D cA B w H) (hS : va_S (gA B) s.heap H locs) : W p l e ({ frames := 3, cells := 0, slots := 0, locals := 106 } : Room) s m args below meth c H locs 0 0 (MQ below (gQv D cA B r wz) args s 0 0 (gA B)) (F0 m 0 ls []) := by
  obtain ⟨hx, hb, hml, hown, hts, hr, hlocks, hK, hBs⟩ := id C
  unfold f_Wi_init_b0 at hf
  refine lv_aload_n hx hb d_Wi_init_0 rfl (lv_at hl 0 rfl) ?_
  refine lv_iconst (v := 5) hx hb d_Wi_init_1 (by decide) ?_
  refine lv_iload_n hx hb d_Wi_init_2 rfl (lv_at hl 1 rfl) ?_
  refine lv_iload_n hx hb d_Wi_init_3 rfl (lv_at hl 2 rfl) ?_
  have ⟨h4, hf⟩ := gd_e hf
  have ⟨x1, w2, h3, hf⟩ := kl_e hf
  refine g_kv0 (g_rI (As := [.int 5, .int a1, .int a2]) (rest := []) hx hb hml hown hts hK hR hS (c_Ro_init l D cA oc B N a0 5 a1 a2 w h3) I_Ro_init rfl m_348 rfl rfl (Nat.le_of_ble_eq_true rfl) hl.1 ⟨Nat.le_of_ble_eq_true rfl, Nat.le_of_ble_eq_true rfl⟩ ⟨Nat.le_of_ble_eq_true rfl, Nat.le_of_ble_eq_true rfl⟩ d_Wi_init_4) hS (fun H locs hR hS => ?_)
  exact g_vret hx hb hr hlocks hR hS hf d_Wi_init_7
theorem c_Wi_init (l : Launch) (D : va_G) (cA : Nat → ClassId) (oc : gO) (B N : Nat) (a0 : Nat) (a1 : Int32) (a2 : Int32) (w : gW) {wz : gW} {r : Unit} (hf : f_Wi_init N a0 a1 a2 w = some (r, wz)) : Met l y_Wi_init (Cond.code y_Wi_init b_Wi_init 3 none :: lw_good) ({ frames := 3, cells := 0, slots := 0, locals := 106 } : Room) (gPre D cA oc B [.ref (B + a0), .int a1, .int a2] w) (gQv D cA B r wz) 0 0 (gA B) := by
  refine Met.ofW (cc := b_Wi_init) (maxL := 3) (ret := none) (by decide +kernel) rfl ?_
  intro p e s m args below meth c s₁ Bd hml hv
  obtain ⟨hargs, C, hR⟩ := gC.enter (l := l) rfl Bd hml hv
  have hin : meth.name = "<init>" := (name_of_methodNamed Bd.named Bd.method).1
  subst hargs
  have hl := lv_entry ([.ref (B + a0), .int a1, .int a2]) (n := 3) (Nat.le_of_ble_eq_true rfl)
  rw [lg_entry_eq]
  generalize (lg_sl ([.ref (B + a0), .int a1, .int a2]) ++ List.replicate (3 - (lg_sl ([.ref (B + a0), .int a1, .int a2])).length) Slot.unset).toArray = ls at hl ⊢
  have hl : lv_has ls 3 [(0, .ref (B + a0)), (1, .int a1), (2, .int a2)] := hl
  exact c_Wi_init_b0 C hin a0 a1 a2 w (lv_sub hl [0, 1, 2] rfl) hf hR va_S.rf
theorem d_Wi_tells_0 : decode b_Wi_tells 0 = .ok (.aload_n 2, 1) := by decide +kernel
theorem d_Wi_tells_1 : decode b_Wi_tells 1 = .ok (.bipush 60, 2) := by decide +kernel
theorem d_Wi_tells_3 : decode b_Wi_tells 3 = .ok (.invokevirtual 24, 3) := by decide +kernel
theorem d_Wi_tells_6 : decode b_Wi_tells 6 = .ok (.aload_n 0, 1) := by decide +kernel
theorem d_Wi_tells_7 : decode b_Wi_tells 7 = .ok (.iload_n 1, 1) := by decide +kernel
theorem d_Wi_tells_8 : decode b_Wi_tells 8 = .ok (.aload_n 0, 1) := by decide +kernel
theorem d_Wi_tells_9 : decode b_Wi_tells 9 = .ok (.getfield 30, 3) := by decide +kernel
theorem d_Wi_tells_12 : decode b_Wi_tells 12 = .ok (.isub, 1) := by decide +kernel
theorem d_Wi_tells_13 : decode b_Wi_tells 13 = .ok (.aload_n 2, 1) := by decide +kernel
theorem d_Wi_tells_14 : decode b_Wi_tells 14 = .ok (.invokespecial 33, 3) := by decide +kernel
theorem d_Wi_tells_17 : decode b_Wi_tells 17 = .ok (.ireturn, 1) := by decide +kernel
set_option maxRecDepth 20000 in
theorem c_Wi_tells_b0 {r : Int32} {wz : gW} (C : gC p s m args meth c "RidCoppers$Wild" b_Wi_tells 3 (some .int) D cA oc B) (a0 : Nat) (a1 : Int32) (a2 : Nat) (w : gW) {ls : Array Slot} {H : Heap} {locs : List Loc} (hl : lv_has ls 3 [(0, .ref (B + a0)), (1, .int a1), (2, .ref (B + a2))]) (hf : f_Wi_tells_b0 N a0 a1 a2 w = some (r, wz)) (hR : gRep D cA B w H) (hS : va_S (gA B) s.heap H locs) : W p l e ({ frames := 8, cells := 0, slots := 0, locals := 193 } : Room) s m args below meth c H locs 0 0 (MQ below (gQi D cA B r wz) args s 0 0 (gA B)) (F0 m 0 ls []) := by
  obtain ⟨hx, hb, hml, hown, hts, hr, hlocks, hK, hBs⟩ := id C
  unfold f_Wi_tells_b0 at hf
  refine lv_aload_n hx hb d_Wi_tells_0 rfl (lv_at hl 2 rfl) ?_
  refine lv_bipush (v := 60) hx hb d_Wi_tells_1 (by decide) ?_
  have ⟨h4, hf⟩ := gd_e hf
  have ⟨x1, w2, h3, hf⟩ := kl_e hf
  refine g_kv0 (g_rV (As := [.int 60]) (rest := []) hx hb hml hown hts hK hR hS (c_Tr_begins l D cA oc B N a2 60 w h3) I_Tr_begins m_932 m_870 (gRecv hK hR (ci := 8) rfl h4) rfl rfl (Nat.le_of_ble_eq_true rfl) hl.1 ⟨Nat.le_of_ble_eq_true rfl, Nat.le_of_ble_eq_true rfl⟩ ⟨Nat.le_of_ble_eq_true rfl, Nat.le_of_ble_eq_true rfl⟩ d_Wi_tells_3) hS (fun H locs hR hS => ?_)
  refine lv_aload_n hx hb d_Wi_tells_6 rfl (lv_at hl 0 rfl) ?_
  refine lv_iload_n hx hb d_Wi_tells_7 rfl (lv_at hl 1 rfl) ?_
  refine lv_aload_n hx hb d_Wi_tells_8 rfl (lv_at hl 0 rfl) ?_
  have ⟨h5, hf⟩ := gd_e hf
  refine g_getI hx hb hts hown hK hR (flP_Wi_30 _ h5) (payv h5) rfl d_Wi_tells_9 ?_
  refine g_nI hf (fun x6 hf => ?_)
  refine lv_isub hx hb d_Wi_tells_12 ?_
  refine g_nI hf (fun x7 hf => ?_)
  refine lv_aload_n hx hb d_Wi_tells_13 rfl (lv_at hl 2 rfl) ?_
  have ⟨x8, w9, h10, hf⟩ := kl_e hf
  have ⟨rc11, hr12, _⟩ := payl _ h5
  refine g_ki0 (g_rSUX0 (x := ⟨"RidCoppers$Rough", "tells", "(ILRidCoppers$Trace;)I"⟩) (owner := "RidCoppers$Payer") (As := [.int x7, .ref (B + a2)]) (rest := []) hx hb hml hown hts hK hR hS (c_P_tells l D cA oc B N a0 x7 a2 w2 h10) I_P_tells m_933 m_934 m_352 m_322 (by decide) hr12 rfl rfl rfl (Nat.le_of_ble_eq_true rfl) hl.1 ⟨Nat.le_of_ble_eq_true rfl, Nat.le_of_ble_eq_true rfl⟩ ⟨Nat.le_of_ble_eq_true rfl, Nat.le_of_ble_eq_true rfl⟩ d_Wi_tells_14) hS (fun H locs hR hS => ?_)
  exact g_iret hx hb hr hlocks hR hS hf rfl d_Wi_tells_17
theorem c_Wi_tells (l : Launch) (D : va_G) (cA : Nat → ClassId) (oc : gO) (B N : Nat) (a0 : Nat) (a1 : Int32) (a2 : Nat) (w : gW) {wz : gW} {r : Int32} (hf : f_Wi_tells N a0 a1 a2 w = some (r, wz)) : Met l y_Wi_tells (Cond.code y_Wi_tells b_Wi_tells 3 (some .int) :: lw_good) ({ frames := 8, cells := 0, slots := 0, locals := 193 } : Room) (gPre D cA oc B [.ref (B + a0), .int a1, .ref (B + a2)] w) (gQi D cA B r wz) 0 0 (gA B) := by
  refine Met.ofW (cc := b_Wi_tells) (maxL := 3) (ret := (some .int)) (by decide +kernel) rfl ?_
  intro p e s m args below meth c s₁ Bd hml hv
  obtain ⟨hargs, C, hR⟩ := gC.enter (l := l) rfl Bd hml hv
  subst hargs
  have hl := lv_entry ([.ref (B + a0), .int a1, .ref (B + a2)]) (n := 3) (Nat.le_of_ble_eq_true rfl)
  rw [lg_entry_eq]
  generalize (lg_sl ([.ref (B + a0), .int a1, .ref (B + a2)]) ++ List.replicate (3 - (lg_sl ([.ref (B + a0), .int a1, .ref (B + a2)])).length) Slot.unset).toArray = ls at hl ⊢
  have hl : lv_has ls 3 [(0, .ref (B + a0)), (1, .int a1), (2, .ref (B + a2))] := hl
  exact c_Wi_tells_b0 C a0 a1 a2 w (lv_sub hl [0, 1, 2] rfl) hf hR va_S.rf
