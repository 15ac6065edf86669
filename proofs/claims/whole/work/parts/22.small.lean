variable {p : Program} {l : Launch} {e : Env} {s : State} {m : MethodId} {args : Array Value} {below : List Frame} {meth : Method} {c : Code} {D : va_G} {cA : Nat → ClassId} {oc : gO} {B N : Nat}
theorem d_Tr_begins_0 : decode b_Tr_begins 0 = .ok (.aload_n 0, 1) := by decide +kernel
theorem d_Tr_begins_1 : decode b_Tr_begins 1 = .ok (.getfield 15, 3) := by decide +kernel
theorem d_Tr_begins_4 : decode b_Tr_begins 4 = .ok (.bipush 20, 2) := by decide +kernel
theorem d_Tr_begins_6 : decode b_Tr_begins 6 = .ok (.if_icmp .ge 13, 3) := by decide +kernel
theorem d_Tr_begins_9 : decode b_Tr_begins 9 = .ok (.aload_n 0, 1) := by decide +kernel
theorem d_Tr_begins_10 : decode b_Tr_begins 10 = .ok (.getfield 9, 3) := by decide +kernel
theorem d_Tr_begins_13 : decode b_Tr_begins 13 = .ok (.aload_n 0, 1) := by decide +kernel
theorem d_Tr_begins_14 : decode b_Tr_begins 14 = .ok (.getfield 15, 3) := by decide +kernel
theorem d_Tr_begins_17 : decode b_Tr_begins 17 = .ok (.iload_n 1, 1) := by decide +kernel
theorem d_Tr_begins_18 : decode b_Tr_begins 18 = .ok (.iastore, 1) := by decide +kernel
theorem d_Tr_begins_19 : decode b_Tr_begins 19 = .ok (.aload_n 0, 1) := by decide +kernel
theorem d_Tr_begins_20 : decode b_Tr_begins 20 = .ok (.dup, 1) := by decide +kernel
theorem d_Tr_begins_21 : decode b_Tr_begins 21 = .ok (.getfield 15, 3) := by decide +kernel
theorem d_Tr_begins_24 : decode b_Tr_begins 24 = .ok (.iconst 1, 1) := by decide +kernel
theorem d_Tr_begins_25 : decode b_Tr_begins 25 = .ok (.iadd, 1) := by decide +kernel
theorem d_Tr_begins_26 : decode b_Tr_begins 26 = .ok (.putfield 15, 3) := by decide +kernel
theorem d_Tr_begins_29 : decode b_Tr_begins 29 = .ok (.return_, 1) := by decide +kernel
set_option maxRecDepth 20000 in
theorem c_Tr_begins_b19 {r : Unit} {wz : gW} (C : gC p s m args meth c "RidCoppers$Trace" b_Tr_begins 2 none D cA oc B) (a0 : Nat) (w : gW) {ls : Array Slot} {H : Heap} {locs : List Loc} (hl : lv_has ls 2 [(0, .ref (B + a0))]) (hf : f_Tr_begins_b19 N a0 w = some (r, wz)) (hR : gRep D cA B w H) (hS : va_S (gA B) s.heap H locs) : W p l e ({ frames := 1, cells := 0, slots := 0, locals := 40 } : Room) s m args below meth c H locs 0 0 (MQ below (gQv D cA B r wz) args s 0 0 (gA B)) (F0 m 19 ls []) := by
  obtain ⟨hx, hb, hml, hown, hts, hr, hlocks, hK, hBs⟩ := id C
  unfold f_Tr_begins_b19 at hf
  refine lv_aload_n hx hb d_Tr_begins_19 rfl (lv_at hl 0 rfl) ?_
  refine lv_dup hx hb d_Tr_begins_20 rfl ?_
  have ⟨h3, hf⟩ := gd_e hf
  refine g_getI hx hb hts hown hK hR fl_Tr_15 (fun _ => rfl) h3 d_Tr_begins_21 ?_
  refine g_nI hf (fun x4 hf => ?_)
  refine lv_iconst (v := 1) hx hb d_Tr_begins_24 (by decide) ?_
  refine lv_iadd hx hb d_Tr_begins_25 ?_
  refine g_nI hf (fun x5 hf => ?_)
  refine g_putI hx hb hts hown hK hR hS pf_Tr_15 (fun _ => rfl) rfl rfl h3 d_Tr_begins_26 (fun H locs hR hS => ?_)
  refine g_nW hf hR (fun w6 hf hR => ?_)
  exact g_vret hx hb hr hlocks hR hS hf d_Tr_begins_29
set_option maxRecDepth 20000 in
theorem c_Tr_begins_b0 {r : Unit} {wz : gW} (C : gC p s m args meth c "RidCoppers$Trace" b_Tr_begins 2 none D cA oc B) (a0 : Nat) (a1 : Int32) (w : gW) {ls : Array Slot} {H : Heap} {locs : List Loc} (hl : lv_has ls 2 [(0, .ref (B + a0)), (1, .int a1)]) (hf : f_Tr_begins_b0 N a0 a1 w = some (r, wz)) (hR : gRep D cA B w H) (hS : va_S (gA B) s.heap H locs) : W p l e ({ frames := 1, cells := 0, slots := 0, locals := 40 } : Room) s m args below meth c H locs 0 0 (MQ below (gQv D cA B r wz) args s 0 0 (gA B)) (F0 m 0 ls []) := by
  obtain ⟨hx, hb, hml, hown, hts, hr, hlocks, hK, hBs⟩ := id C
  unfold f_Tr_begins_b0 at hf
  refine lv_aload_n hx hb d_Tr_begins_0 rfl (lv_at hl 0 rfl) ?_
  have ⟨h1, hf⟩ := gd_e hf
  refine g_getI hx hb hts hown hK hR fl_Tr_15 (fun _ => rfl) h1 d_Tr_begins_1 ?_
  refine g_nI hf (fun x2 hf => ?_)
  refine lv_bipush (v := 20) hx hb d_Tr_begins_4 (by decide) ?_
  refine lv_icmp_ge (tgt := 19) hx hb d_Tr_begins_6 (by decide) (fun hc => ?_) (fun hc => ?_)
  · have hf := cd_t hc hf
    exact c_Tr_begins_b19 C a0 w (lv_sub hl [0] rfl) hf hR hS
  have hf := cd_f hc hf
  refine lv_aload_n hx hb d_Tr_begins_9 rfl (lv_at hl 0 rfl) ?_
  have ⟨x7, h8, hf⟩ := rr_e hf
  refine g_getR hx hb hts hown hK hR fl_Tr_9 (fun _ => rfl) h1 h8 d_Tr_begins_10 ?_
  refine lv_aload_n hx hb d_Tr_begins_13 rfl (lv_at hl 0 rfl) ?_
  refine g_getI hx hb hts hown hK hR fl_Tr_15 (fun _ => rfl) h1 d_Tr_begins_14 ?_
  refine g_nI hf (fun x9 hf => ?_)
  refine lv_iload_n hx hb d_Tr_begins_17 rfl (lv_at hl 1 rfl) ?_
  have ⟨h10, hf⟩ := gd_e hf
  have ⟨h11, hf⟩ := gd_e hf
  refine g_iast hx hb hK hR hS h10 h11 d_Tr_begins_18 (fun H locs hR hS => ?_)
  refine g_nW hf hR (fun w12 hf hR => ?_)
  exact c_Tr_begins_b19 C a0 w12 (lv_sub hl [0] rfl) hf hR hS
theorem c_Tr_begins (l : Launch) (D : va_G) (cA : Nat → ClassId) (oc : gO) (B N : Nat) (a0 : Nat) (a1 : Int32) (w : gW) {wz : gW} {r : Unit} (hf : f_Tr_begins N a0 a1 w = some (r, wz)) : Met l y_Tr_begins (Cond.code y_Tr_begins b_Tr_begins 2 none :: lw_good) ({ frames := 1, cells := 0, slots := 0, locals := 40 } : Room) (gPre D cA oc B [.ref (B + a0), .int a1] w) (gQv D cA B r wz) 0 0 (gA B) := by
  refine Met.ofW (cc := b_Tr_begins) (maxL := 2) (ret := none) (by decide +kernel) rfl ?_
  intro p e s m args below meth c s₁ Bd hml hv
  obtain ⟨hargs, C, hR⟩ := gC.enter (l := l) rfl Bd hml hv
  subst hargs
  have hl := lv_entry ([.ref (B + a0), .int a1]) (n := 2) (Nat.le_of_ble_eq_true rfl)
  rw [lg_entry_eq]
  generalize (lg_sl ([.ref (B + a0), .int a1]) ++ List.replicate (2 - (lg_sl ([.ref (B + a0), .int a1])).length) Slot.unset).toArray = ls at hl ⊢
  have hl : lv_has ls 2 [(0, .ref (B + a0)), (1, .int a1)] := hl
  exact c_Tr_begins_b0 C a0 a1 w (lv_sub hl [0, 1] rfl) hf hR va_S.rf
theorem d_Pm_purseBehind_0 : decode b_Pm_purseBehind 0 = .ok (.aload_n 0, 1) := by decide +kernel
theorem d_Pm_purseBehind_1 : decode b_Pm_purseBehind 1 = .ok (.getfield 27, 3) := by decide +kernel
theorem d_Pm_purseBehind_4 : decode b_Pm_purseBehind 4 = .ok (.getfield 104, 3) := by decide +kernel
theorem d_Pm_purseBehind_7 : decode b_Pm_purseBehind 7 = .ok (.aload_n 0, 1) := by decide +kernel
theorem d_Pm_purseBehind_8 : decode b_Pm_purseBehind 8 = .ok (.getfield 31, 3) := by decide +kernel
theorem d_Pm_purseBehind_11 : decode b_Pm_purseBehind 11 = .ok (.getfield 96, 3) := by decide +kernel
theorem d_Pm_purseBehind_14 : decode b_Pm_purseBehind 14 = .ok (.aaload, 1) := by decide +kernel
theorem d_Pm_purseBehind_15 : decode b_Pm_purseBehind 15 = .ok (.iload_n 1, 1) := by decide +kernel
theorem d_Pm_purseBehind_16 : decode b_Pm_purseBehind 16 = .ok (.iaload, 1) := by decide +kernel
theorem d_Pm_purseBehind_17 : decode b_Pm_purseBehind 17 = .ok (.aload_n 0, 1) := by decide +kernel
theorem d_Pm_purseBehind_18 : decode b_Pm_purseBehind 18 = .ok (.getfield 15, 3) := by decide +kernel
theorem d_Pm_purseBehind_21 : decode b_Pm_purseBehind 21 = .ok (.iload_n 1, 1) := by decide +kernel
theorem d_Pm_purseBehind_22 : decode b_Pm_purseBehind 22 = .ok (.iaload, 1) := by decide +kernel
theorem d_Pm_purseBehind_23 : decode b_Pm_purseBehind 23 = .ok (.isub, 1) := by decide +kernel
theorem d_Pm_purseBehind_24 : decode b_Pm_purseBehind 24 = .ok (.aload_n 0, 1) := by decide +kernel
theorem d_Pm_purseBehind_25 : decode b_Pm_purseBehind 25 = .ok (.getfield 18, 3) := by decide +kernel
theorem d_Pm_purseBehind_28 : decode b_Pm_purseBehind 28 = .ok (.iload_n 1, 1) := by decide +kernel
theorem d_Pm_purseBehind_29 : decode b_Pm_purseBehind 29 = .ok (.iaload, 1) := by decide +kernel
theorem d_Pm_purseBehind_30 : decode b_Pm_purseBehind 30 = .ok (.iadd, 1) := by decide +kernel
theorem d_Pm_purseBehind_31 : decode b_Pm_purseBehind 31 = .ok (.ireturn, 1) := by decide +kernel
set_option maxRecDepth 20000 in
theorem c_Pm_purseBehind_b0 {r : Int32} {wz : gW} (C : gC p s m args meth c "RidCoppers$Payment" b_Pm_purseBehind 2 (some .int) D cA oc B) (a0 : Nat) (a1 : Int32) (w : gW) {ls : Array Slot} {H : Heap} {locs : List Loc} (hl : lv_has ls 2 [(0, .ref (B + a0)), (1, .int a1)]) (hf : f_Pm_purseBehind_b0 N a0 a1 w = some (r, wz)) (hR : gRep D cA B w H) (hS : va_S (gA B) s.heap H locs) : W p l e ({ frames := 1, cells := 0, slots := 0, locals := 40 } : Room) s m args below meth c H locs 0 0 (MQ below (gQi D cA B r wz) args s 0 0 (gA B)) (F0 m 0 ls []) := by
  obtain ⟨hx, hb, hml, hown, hts, hr, hlocks, hK, hBs⟩ := id C
  unfold f_Pm_purseBehind_b0 at hf
  refine lv_aload_n hx hb d_Pm_purseBehind_0 rfl (lv_at hl 0 rfl) ?_
  have ⟨h1, hf⟩ := gd_e hf
  have ⟨x2, h3, hf⟩ := rr_e hf
  refine g_getR hx hb hts hown hK hR fl_Pm_27 (fun _ => rfl) h1 h3 d_Pm_purseBehind_1 ?_
  have ⟨h4, hf⟩ := gd_e hf
  have ⟨x5, h6, hf⟩ := rr_e hf
  refine g_getR hx hb hts hown hK hR fl_Pm_104 (fun _ => rfl) h4 h6 d_Pm_purseBehind_4 ?_
  refine lv_aload_n hx hb d_Pm_purseBehind_7 rfl (lv_at hl 0 rfl) ?_
  have ⟨x7, h8, hf⟩ := rr_e hf
  refine g_getR hx hb hts hown hK hR fl_Pm_31 (fun _ => rfl) h1 h8 d_Pm_purseBehind_8 ?_
  have ⟨h9, hf⟩ := gd_e hf
  refine g_getI hx hb hts hown hK hR (flP_Pm_96 _ h9) (payv h9) rfl d_Pm_purseBehind_11 ?_
  refine g_nI hf (fun x10 hf => ?_)
  have ⟨h11, hf⟩ := gd_e hf
  have ⟨h12, hf⟩ := gd_e hf
  have ⟨x13, h14, hf⟩ := rr_e hf
  refine g_aald hx hb hK hR (by decide) rfl (fun _ _ => rfl) h11 h12 h14 d_Pm_purseBehind_14 ?_
  refine lv_iload_n hx hb d_Pm_purseBehind_15 rfl (lv_at hl 1 rfl) ?_
  have ⟨h15, hf⟩ := gd_e hf
  have ⟨h16, hf⟩ := gd_e hf
  refine g_iald hx hb hK hR h15 h16 d_Pm_purseBehind_16 ?_
  refine g_nI hf (fun x17 hf => ?_)
  refine lv_aload_n hx hb d_Pm_purseBehind_17 rfl (lv_at hl 0 rfl) ?_
  have ⟨x18, h19, hf⟩ := rr_e hf
  refine g_getR hx hb hts hown hK hR fl_Pm_15 (fun _ => rfl) h1 h19 d_Pm_purseBehind_18 ?_
  refine lv_iload_n hx hb d_Pm_purseBehind_21 rfl (lv_at hl 1 rfl) ?_
  have ⟨h20, hf⟩ := gd_e hf
  have ⟨h21, hf⟩ := gd_e hf
  refine g_iald hx hb hK hR h20 h21 d_Pm_purseBehind_22 ?_
  refine g_nI hf (fun x22 hf => ?_)
  refine lv_isub hx hb d_Pm_purseBehind_23 ?_
  refine g_nI hf (fun x23 hf => ?_)
  refine lv_aload_n hx hb d_Pm_purseBehind_24 rfl (lv_at hl 0 rfl) ?_
  have ⟨x24, h25, hf⟩ := rr_e hf
  refine g_getR hx hb hts hown hK hR fl_Pm_18 (fun _ => rfl) h1 h25 d_Pm_purseBehind_25 ?_
  refine lv_iload_n hx hb d_Pm_purseBehind_28 rfl (lv_at hl 1 rfl) ?_
  have ⟨h26, hf⟩ := gd_e hf
  have ⟨h27, hf⟩ := gd_e hf
  refine g_iald hx hb hK hR h26 h27 d_Pm_purseBehind_29 ?_
  refine g_nI hf (fun x28 hf => ?_)
  refine lv_iadd hx hb d_Pm_purseBehind_30 ?_
  refine g_nI hf (fun x29 hf => ?_)
  exact g_iret hx hb hr hlocks hR hS hf rfl d_Pm_purseBehind_31
theorem c_Pm_purseBehind (l : Launch) (D : va_G) (cA : Nat → ClassId) (oc : gO) (B N : Nat) (a0 : Nat) (a1 : Int32) (w : gW) {wz : gW} {r : Int32} (hf : f_Pm_purseBehind N a0 a1 w = some (r, wz)) : Met l y_Pm_purseBehind (Cond.code y_Pm_purseBehind b_Pm_purseBehind 2 (some .int) :: lw_good) ({ frames := 1, cells := 0, slots := 0, locals := 40 } : Room) (gPre D cA oc B [.ref (B + a0), .int a1] w) (gQi D cA B r wz) 0 0 (gA B) := by
  refine Met.ofW (cc := b_Pm_purseBehind) (maxL := 2) (ret := (some .int)) (by decide +kernel) rfl ?_
  intro p e s m args below meth c s₁ Bd hml hv
  obtain ⟨hargs, C, hR⟩ := gC.enter (l := l) rfl Bd hml hv
  subst hargs
  have hl := lv_entry ([.ref (B + a0), .int a1]) (n := 2) (Nat.le_of_ble_eq_true rfl)
  rw [lg_entry_eq]
  generalize (lg_sl ([.ref (B + a0), .int a1]) ++ List.replicate (2 - (lg_sl ([.ref (B + a0), .int a1])).length) Slot.unset).toArray = ls at hl ⊢
  have hl : lv_has ls 2 [(0, .ref (B + a0)), (1, .int a1)] := hl
  exact c_Pm_purseBehind_b0 C a0 a1 w (lv_sub hl [0, 1] rfl) hf hR va_S.rf
theorem d_Pm_weightBehind_0 : decode b_Pm_weightBehind 0 = .ok (.iconst 0, 1) := by decide +kernel
theorem d_Pm_weightBehind_1 : decode b_Pm_weightBehind 1 = .ok (.istore_n 1, 1) := by decide +kernel
theorem d_Pm_weightBehind_2 : decode b_Pm_weightBehind 2 = .ok (.iconst 0, 1) := by decide +kernel
theorem d_Pm_weightBehind_3 : decode b_Pm_weightBehind 3 = .ok (.istore_n 2, 1) := by decide +kernel
theorem d_Pm_weightBehind_4 : decode b_Pm_weightBehind 4 = .ok (.iload_n 2, 1) := by decide +kernel
theorem d_Pm_weightBehind_5 : decode b_Pm_weightBehind 5 = .ok (.bipush 6, 2) := by decide +kernel
theorem d_Pm_weightBehind_7 : decode b_Pm_weightBehind 7 = .ok (.if_icmp .ge 30, 3) := by decide +kernel
theorem d_Pm_weightBehind_10 : decode b_Pm_weightBehind 10 = .ok (.iload_n 1, 1) := by decide +kernel
theorem d_Pm_weightBehind_11 : decode b_Pm_weightBehind 11 = .ok (.aload_n 0, 1) := by decide +kernel
theorem d_Pm_weightBehind_12 : decode b_Pm_weightBehind 12 = .ok (.iload_n 2, 1) := by decide +kernel
theorem d_Pm_weightBehind_13 : decode b_Pm_weightBehind 13 = .ok (.invokevirtual 114, 3) := by decide +kernel
theorem d_Pm_weightBehind_16 : decode b_Pm_weightBehind 16 = .ok (.aload_n 0, 1) := by decide +kernel
theorem d_Pm_weightBehind_17 : decode b_Pm_weightBehind 17 = .ok (.getfield 27, 3) := by decide +kernel
theorem d_Pm_weightBehind_20 : decode b_Pm_weightBehind 20 = .ok (.getfield 117, 3) := by decide +kernel
theorem d_Pm_weightBehind_23 : decode b_Pm_weightBehind 23 = .ok (.getfield 121, 3) := by decide +kernel
theorem d_Pm_weightBehind_26 : decode b_Pm_weightBehind 26 = .ok (.iload_n 2, 1) := by decide +kernel
theorem d_Pm_weightBehind_27 : decode b_Pm_weightBehind 27 = .ok (.iaload, 1) := by decide +kernel
theorem d_Pm_weightBehind_28 : decode b_Pm_weightBehind 28 = .ok (.imul, 1) := by decide +kernel
theorem d_Pm_weightBehind_29 : decode b_Pm_weightBehind 29 = .ok (.iadd, 1) := by decide +kernel
theorem d_Pm_weightBehind_30 : decode b_Pm_weightBehind 30 = .ok (.istore_n 1, 1) := by decide +kernel
theorem d_Pm_weightBehind_31 : decode b_Pm_weightBehind 31 = .ok (.iinc 2 1, 3) := by decide +kernel
theorem d_Pm_weightBehind_34 : decode b_Pm_weightBehind 34 = .ok (.goto (-30), 3) := by decide +kernel
theorem d_Pm_weightBehind_37 : decode b_Pm_weightBehind 37 = .ok (.iload_n 1, 1) := by decide +kernel
theorem d_Pm_weightBehind_38 : decode b_Pm_weightBehind 38 = .ok (.ireturn, 1) := by decide +kernel
set_option maxRecDepth 20000 in
theorem c_Pm_weightBehind_b4 {r : Int32} {wz : gW} {rec4 : Nat × Int32 × Int32 × gW → Option (Int32 × gW)} (ih4 : ∀ (a0 : Nat) (a1 : Int32) (a2 : Int32) (w : gW) (ls : Array Slot) (H : Heap) (locs : List Loc), rec4 (a0, a1, a2, w) = some (r, wz) → lv_has ls 3 [(0, .ref (B + a0)), (1, .int a1), (2, .int a2)] → gRep D cA B w H → va_S (gA B) s.heap H locs → W p l e ({ frames := 2, cells := 0, slots := 0, locals := 61 } : Room) s m args below meth c H locs 0 0 (MQ below (gQi D cA B r wz) args s 0 0 (gA B)) (F0 m 4 ls [])) (C : gC p s m args meth c "RidCoppers$Payment" b_Pm_weightBehind 3 (some .int) D cA oc B) (a0 : Nat) (a1 : Int32) (a2 : Int32) (w : gW) {ls : Array Slot} {H : Heap} {locs : List Loc} (hl : lv_has ls 3 [(0, .ref (B + a0)), (1, .int a1), (2, .int a2)]) (hf : f_Pm_weightBehind_b4 N rec4 a0 a1 a2 w = some (r, wz)) (hR : gRep D cA B w H) (hS : va_S (gA B) s.heap H locs) : W p l e ({ frames := 2, cells := 0, slots := 0, locals := 61 } : Room) s m args below meth c H locs 0 0 (MQ below (gQi D cA B r wz) args s 0 0 (gA B)) (F0 m 4 ls []) := by
  obtain ⟨hx, hb, hml, hown, hts, hr, hlocks, hK, hBs⟩ := id C
  unfold f_Pm_weightBehind_b4 at hf
  refine lv_iload_n hx hb d_Pm_weightBehind_4 rfl (lv_at hl 2 rfl) ?_
  refine lv_bipush (v := 6) hx hb d_Pm_weightBehind_5 (by decide) ?_
  refine lv_icmp_ge (tgt := 37) hx hb d_Pm_weightBehind_7 (by decide) (fun hc => ?_) (fun hc => ?_)
  · have hf := cd_t hc hf
    refine lv_iload_n hx hb d_Pm_weightBehind_37 rfl (lv_at hl 1 rfl) ?_
    exact g_iret hx hb hr hlocks hR hS hf rfl d_Pm_weightBehind_38
  have hf := cd_f hc hf
  refine lv_iload_n hx hb d_Pm_weightBehind_10 rfl (lv_at hl 1 rfl) ?_
  refine lv_aload_n hx hb d_Pm_weightBehind_11 rfl (lv_at hl 0 rfl) ?_
  refine lv_iload_n hx hb d_Pm_weightBehind_12 rfl (lv_at hl 2 rfl) ?_
  have ⟨h4, hf⟩ := gd_e hf
  have ⟨x1, w2, h3, hf⟩ := kl_e hf
  refine g_ki0 (g_rV (As := [.int a2]) (rest := [.int a1]) hx hb hml hown hts hK hR hS (c_Pm_purseBehind l D cA oc B N a0 a2 w h3) I_Pm_purseBehind m_678 mp_20 (gRecv hK hR (ci := 10) rfl h4) rfl rfl (Nat.le_of_ble_eq_true rfl) hl.1 ⟨Nat.le_of_ble_eq_true rfl, Nat.le_of_ble_eq_true rfl⟩ ⟨Nat.le_of_ble_eq_true rfl, Nat.le_of_ble_eq_true rfl⟩ d_Pm_weightBehind_13) hS (fun H locs hR hS => ?_)
  refine lv_aload_n hx hb d_Pm_weightBehind_16 rfl (lv_at hl 0 rfl) ?_
  have ⟨h5, hf⟩ := gd_e hf
  have ⟨x6, h7, hf⟩ := rr_e hf
  refine g_getR hx hb hts hown hK hR fl_Pm_27 (fun _ => rfl) h5 h7 d_Pm_weightBehind_17 ?_
  have ⟨h8, hf⟩ := gd_e hf
  have ⟨x9, h10, hf⟩ := rr_e hf
  refine g_getR hx hb hts hown hK hR fl_Pm_117 (fun _ => rfl) h8 h10 d_Pm_weightBehind_20 ?_
  have ⟨h11, hf⟩ := gd_e hf
  have ⟨x12, h13, hf⟩ := rr_e hf
  refine g_getR hx hb hts hown hK hR fl_Pm_121 (fun _ => rfl) h11 h13 d_Pm_weightBehind_23 ?_
  refine lv_iload_n hx hb d_Pm_weightBehind_26 rfl (lv_at hl 2 rfl) ?_
  have ⟨h14, hf⟩ := gd_e hf
  have ⟨h15, hf⟩ := gd_e hf
  refine g_iald hx hb hK hR h14 h15 d_Pm_weightBehind_27 ?_
  refine g_nI hf (fun x16 hf => ?_)
  refine lv_imul hx hb d_Pm_weightBehind_28 ?_
  refine g_nI hf (fun x17 hf => ?_)
  refine lv_iadd hx hb d_Pm_weightBehind_29 ?_
  refine g_nI hf (fun x18 hf => ?_)
  refine lv_istore_n (lv' := [(1, .int x18), (0, .ref (B + a0)), (2, .int a2)]) hx hb d_Pm_weightBehind_30 rfl hl (by decide) rfl (fun ls hl => ?_)
  refine g_iinc (lv' := fun x19 => [(2, .int x19), (1, .int x18), (0, .ref (B + a0))]) hf hx hb d_Pm_weightBehind_31 hl (k := 2) rfl (by decide) (by decide) (fun _ => rfl) (fun x19 ls hf hl => ?_)
  refine lv_goto (tgt := 4) hx hb d_Pm_weightBehind_34 (by decide) ?_
  exact ih4 a0 x18 x19 w2 _ _ _ hf (lv_sub hl [2, 1, 0] rfl) hR hS
theorem c_Pm_weightBehind_l4 {r : Int32} {wz : gW} (C : gC p s m args meth c "RidCoppers$Payment" b_Pm_weightBehind 3 (some .int) D cA oc B) (a0 : Nat) (a1 : Int32) (a2 : Int32) (w : gW) {ls : Array Slot} {H : Heap} {locs : List Loc} (hl : lv_has ls 3 [(0, .ref (B + a0)), (1, .int a1), (2, .int a2)]) (hf : f_Pm_weightBehind_l4 N a0 a1 a2 w = some (r, wz)) (hR : gRep D cA B w H) (hS : va_S (gA B) s.heap H locs) : W p l e ({ frames := 2, cells := 0, slots := 0, locals := 61 } : Room) s m args below meth c H locs 0 0 (MQ below (gQi D cA B r wz) args s 0 0 (gA B)) (F0 m 4 ls []) := by
  unfold f_Pm_weightBehind_l4 at hf
  suffices hh : ∀ n : Nat, ∀ (a0 : Nat) (a1 : Int32) (a2 : Int32) (w : gW) (ls : Array Slot) (H : Heap) (locs : List Loc), itr (fun rec (q : Nat × Int32 × Int32 × gW) => f_Pm_weightBehind_b4 N rec q.1 q.2.1 q.2.2.1 q.2.2.2) n (a0, a1, a2, w) = some (r, wz) → lv_has ls 3 [(0, .ref (B + a0)), (1, .int a1), (2, .int a2)] → gRep D cA B w H → va_S (gA B) s.heap H locs → W p l e ({ frames := 2, cells := 0, slots := 0, locals := 61 } : Room) s m args below meth c H locs 0 0 (MQ below (gQi D cA B r wz) args s 0 0 (gA B)) (F0 m 4 ls []) from hh N a0 a1 a2 w ls H locs hf hl hR hS
  intro n
  induction n with
  | zero => intro a0 a1 a2 w ls H locs hf; cases hf
  | succ n ihn =>
    intro a0 a1 a2 w ls H locs hf hl hR hS
    exact c_Pm_weightBehind_b4 (N := N) ihn C a0 a1 a2 w hl ((itr_s _ _ _).symm.trans hf) hR hS
set_option maxRecDepth 20000 in
theorem c_Pm_weightBehind_b0 {r : Int32} {wz : gW} (C : gC p s m args meth c "RidCoppers$Payment" b_Pm_weightBehind 3 (some .int) D cA oc B) (a0 : Nat) (w : gW) {ls : Array Slot} {H : Heap} {locs : List Loc} (hl : lv_has ls 3 [(0, .ref (B + a0))]) (hf : f_Pm_weightBehind_b0 N a0 w = some (r, wz)) (hR : gRep D cA B w H) (hS : va_S (gA B) s.heap H locs) : W p l e ({ frames := 2, cells := 0, slots := 0, locals := 61 } : Room) s m args below meth c H locs 0 0 (MQ below (gQi D cA B r wz) args s 0 0 (gA B)) (F0 m 0 ls []) := by
  obtain ⟨hx, hb, hml, hown, hts, hr, hlocks, hK, hBs⟩ := id C
  unfold f_Pm_weightBehind_b0 at hf
  refine lv_iconst (v := 0) hx hb d_Pm_weightBehind_0 (by decide) ?_
  refine lv_istore_n (lv' := [(1, .int 0), (0, .ref (B + a0))]) hx hb d_Pm_weightBehind_1 rfl hl (by decide) rfl (fun ls hl => ?_)
  refine lv_iconst (v := 0) hx hb d_Pm_weightBehind_2 (by decide) ?_
  refine lv_istore_n (lv' := [(2, .int 0), (1, .int 0), (0, .ref (B + a0))]) hx hb d_Pm_weightBehind_3 rfl hl (by decide) rfl (fun ls hl => ?_)
  exact c_Pm_weightBehind_l4 C a0 0 0 w (lv_sub hl [2, 1, 0] rfl) hf hR hS
theorem c_Pm_weightBehind (l : Launch) (D : va_G) (cA : Nat → ClassId) (oc : gO) (B N : Nat) (a0 : Nat) (w : gW) {wz : gW} {r : Int32} (hf : f_Pm_weightBehind N a0 w = some (r, wz)) : Met l y_Pm_weightBehind (Cond.code y_Pm_weightBehind b_Pm_weightBehind 3 (some .int) :: lw_good) ({ frames := 2, cells := 0, slots := 0, locals := 61 } : Room) (gPre D cA oc B [.ref (B + a0)] w) (gQi D cA B r wz) 0 0 (gA B) := by
  refine Met.ofW (cc := b_Pm_weightBehind) (maxL := 3) (ret := (some .int)) (by decide +kernel) rfl ?_
  intro p e s m args below meth c s₁ Bd hml hv
  obtain ⟨hargs, C, hR⟩ := gC.enter (l := l) rfl Bd hml hv
  subst hargs
  have hl := lv_entry ([.ref (B + a0)]) (n := 3) (Nat.le_of_ble_eq_true rfl)
  rw [lg_entry_eq]
  generalize (lg_sl ([.ref (B + a0)]) ++ List.replicate (3 - (lg_sl ([.ref (B + a0)])).length) Slot.unset).toArray = ls at hl ⊢
  have hl : lv_has ls 3 [(0, .ref (B + a0))] := hl
  exact c_Pm_weightBehind_b0 C a0 w (lv_sub hl [0] rfl) hf hR va_S.rf
theorem d_Wo_coins_0 : decode b_Wo_coins 0 = .ok (.iconst 0, 1) := by decide +kernel
theorem d_Wo_coins_1 : decode b_Wo_coins 1 = .ok (.istore_n 2, 1) := by decide +kernel
theorem d_Wo_coins_2 : decode b_Wo_coins 2 = .ok (.iconst 0, 1) := by decide +kernel
theorem d_Wo_coins_3 : decode b_Wo_coins 3 = .ok (.istore_n 3, 1) := by decide +kernel
theorem d_Wo_coins_4 : decode b_Wo_coins 4 = .ok (.iload_n 3, 1) := by decide +kernel
theorem d_Wo_coins_5 : decode b_Wo_coins 5 = .ok (.bipush 6, 2) := by decide +kernel
theorem d_Wo_coins_7 : decode b_Wo_coins 7 = .ok (.if_icmp .ge 20, 3) := by decide +kernel
theorem d_Wo_coins_10 : decode b_Wo_coins 10 = .ok (.iload_n 2, 1) := by decide +kernel
theorem d_Wo_coins_11 : decode b_Wo_coins 11 = .ok (.aload_n 0, 1) := by decide +kernel
theorem d_Wo_coins_12 : decode b_Wo_coins 12 = .ok (.getfield 23, 3) := by decide +kernel
theorem d_Wo_coins_15 : decode b_Wo_coins 15 = .ok (.iload_n 1, 1) := by decide +kernel
theorem d_Wo_coins_16 : decode b_Wo_coins 16 = .ok (.aaload, 1) := by decide +kernel
theorem d_Wo_coins_17 : decode b_Wo_coins 17 = .ok (.iload_n 3, 1) := by decide +kernel
theorem d_Wo_coins_18 : decode b_Wo_coins 18 = .ok (.iaload, 1) := by decide +kernel
theorem d_Wo_coins_19 : decode b_Wo_coins 19 = .ok (.iadd, 1) := by decide +kernel
theorem d_Wo_coins_20 : decode b_Wo_coins 20 = .ok (.istore_n 2, 1) := by decide +kernel
theorem d_Wo_coins_21 : decode b_Wo_coins 21 = .ok (.iinc 3 1, 3) := by decide +kernel
theorem d_Wo_coins_24 : decode b_Wo_coins 24 = .ok (.goto (-20), 3) := by decide +kernel
theorem d_Wo_coins_27 : decode b_Wo_coins 27 = .ok (.iload_n 2, 1) := by decide +kernel
theorem d_Wo_coins_28 : decode b_Wo_coins 28 = .ok (.ireturn, 1) := by decide +kernel
set_option maxRecDepth 20000 in
theorem c_Wo_coins_b4 {r : Int32} {wz : gW} {rec4 : Nat × Int32 × Int32 × Int32 × gW → Option (Int32 × gW)} (ih4 : ∀ (a0 : Nat) (a1 : Int32) (a2 : Int32) (a3 : Int32) (w : gW) (ls : Array Slot) (H : Heap) (locs : List Loc), rec4 (a0, a1, a2, a3, w) = some (r, wz) → lv_has ls 4 [(0, .ref (B + a0)), (1, .int a1), (2, .int a2), (3, .int a3)] → gRep D cA B w H → va_S (gA B) s.heap H locs → W p l e ({ frames := 1, cells := 0, slots := 0, locals := 40 } : Room) s m args below meth c H locs 0 0 (MQ below (gQi D cA B r wz) args s 0 0 (gA B)) (F0 m 4 ls [])) (C : gC p s m args meth c "RidCoppers$World" b_Wo_coins 4 (some .int) D cA oc B) (a0 : Nat) (a1 : Int32) (a2 : Int32) (a3 : Int32) (w : gW) {ls : Array Slot} {H : Heap} {locs : List Loc} (hl : lv_has ls 4 [(0, .ref (B + a0)), (1, .int a1), (2, .int a2), (3, .int a3)]) (hf : f_Wo_coins_b4 N rec4 a0 a1 a2 a3 w = some (r, wz)) (hR : gRep D cA B w H) (hS : va_S (gA B) s.heap H locs) : W p l e ({ frames := 1, cells := 0, slots := 0, locals := 40 } : Room) s m args below meth c H locs 0 0 (MQ below (gQi D cA B r wz) args s 0 0 (gA B)) (F0 m 4 ls []) := by
  obtain ⟨hx, hb, hml, hown, hts, hr, hlocks, hK, hBs⟩ := id C
  unfold f_Wo_coins_b4 at hf
  refine lv_iload_n hx hb d_Wo_coins_4 rfl (lv_at hl 3 rfl) ?_
  refine lv_bipush (v := 6) hx hb d_Wo_coins_5 (by decide) ?_
  refine lv_icmp_ge (tgt := 27) hx hb d_Wo_coins_7 (by decide) (fun hc => ?_) (fun hc => ?_)
  · have hf := cd_t hc hf
    refine lv_iload_n hx hb d_Wo_coins_27 rfl (lv_at hl 2 rfl) ?_
    exact g_iret hx hb hr hlocks hR hS hf rfl d_Wo_coins_28
  have hf := cd_f hc hf
  refine lv_iload_n hx hb d_Wo_coins_10 rfl (lv_at hl 2 rfl) ?_
  refine lv_aload_n hx hb d_Wo_coins_11 rfl (lv_at hl 0 rfl) ?_
  have ⟨h1, hf⟩ := gd_e hf
  have ⟨x2, h3, hf⟩ := rr_e hf
  refine g_getR hx hb hts hown hK hR fl_Wo_23 (fun _ => rfl) h1 h3 d_Wo_coins_12 ?_
  refine lv_iload_n hx hb d_Wo_coins_15 rfl (lv_at hl 1 rfl) ?_
  have ⟨h4, hf⟩ := gd_e hf
  have ⟨h5, hf⟩ := gd_e hf
  have ⟨x6, h7, hf⟩ := rr_e hf
  refine g_aald hx hb hK hR (by decide) rfl (fun _ _ => rfl) h4 h5 h7 d_Wo_coins_16 ?_
  refine lv_iload_n hx hb d_Wo_coins_17 rfl (lv_at hl 3 rfl) ?_
  have ⟨h8, hf⟩ := gd_e hf
  have ⟨h9, hf⟩ := gd_e hf
  refine g_iald hx hb hK hR h8 h9 d_Wo_coins_18 ?_
  refine g_nI hf (fun x10 hf => ?_)
  refine lv_iadd hx hb d_Wo_coins_19 ?_
  refine g_nI hf (fun x11 hf => ?_)
  refine lv_istore_n (lv' := [(2, .int x11), (0, .ref (B + a0)), (1, .int a1), (3, .int a3)]) hx hb d_Wo_coins_20 rfl hl (by decide) rfl (fun ls hl => ?_)
  refine g_iinc (lv' := fun x12 => [(3, .int x12), (2, .int x11), (0, .ref (B + a0)), (1, .int a1)]) hf hx hb d_Wo_coins_21 hl (k := 3) rfl (by decide) (by decide) (fun _ => rfl) (fun x12 ls hf hl => ?_)
  refine lv_goto (tgt := 4) hx hb d_Wo_coins_24 (by decide) ?_
  exact ih4 a0 a1 x11 x12 w _ _ _ hf (lv_sub hl [2, 3, 1, 0] rfl) hR hS
theorem c_Wo_coins_l4 {r : Int32} {wz : gW} (C : gC p s m args meth c "RidCoppers$World" b_Wo_coins 4 (some .int) D cA oc B) (a0 : Nat) (a1 : Int32) (a2 : Int32) (a3 : Int32) (w : gW) {ls : Array Slot} {H : Heap} {locs : List Loc} (hl : lv_has ls 4 [(0, .ref (B + a0)), (1, .int a1), (2, .int a2), (3, .int a3)]) (hf : f_Wo_coins_l4 N a0 a1 a2 a3 w = some (r, wz)) (hR : gRep D cA B w H) (hS : va_S (gA B) s.heap H locs) : W p l e ({ frames := 1, cells := 0, slots := 0, locals := 40 } : Room) s m args below meth c H locs 0 0 (MQ below (gQi D cA B r wz) args s 0 0 (gA B)) (F0 m 4 ls []) := by
  unfold f_Wo_coins_l4 at hf
  suffices hh : ∀ n : Nat, ∀ (a0 : Nat) (a1 : Int32) (a2 : Int32) (a3 : Int32) (w : gW) (ls : Array Slot) (H : Heap) (locs : List Loc), itr (fun rec (q : Nat × Int32 × Int32 × Int32 × gW) => f_Wo_coins_b4 N rec q.1 q.2.1 q.2.2.1 q.2.2.2.1 q.2.2.2.2) n (a0, a1, a2, a3, w) = some (r, wz) → lv_has ls 4 [(0, .ref (B + a0)), (1, .int a1), (2, .int a2), (3, .int a3)] → gRep D cA B w H → va_S (gA B) s.heap H locs → W p l e ({ frames := 1, cells := 0, slots := 0, locals := 40 } : Room) s m args below meth c H locs 0 0 (MQ below (gQi D cA B r wz) args s 0 0 (gA B)) (F0 m 4 ls []) from hh N a0 a1 a2 a3 w ls H locs hf hl hR hS
  intro n
  induction n with
  | zero => intro a0 a1 a2 a3 w ls H locs hf; cases hf
  | succ n ihn =>
    intro a0 a1 a2 a3 w ls H locs hf hl hR hS
    exact c_Wo_coins_b4 (N := N) ihn C a0 a1 a2 a3 w hl ((itr_s _ _ _).symm.trans hf) hR hS
set_option maxRecDepth 20000 in
theorem c_Wo_coins_b0 {r : Int32} {wz : gW} (C : gC p s m args meth c "RidCoppers$World" b_Wo_coins 4 (some .int) D cA oc B) (a0 : Nat) (a1 : Int32) (w : gW) {ls : Array Slot} {H : Heap} {locs : List Loc} (hl : lv_has ls 4 [(0, .ref (B + a0)), (1, .int a1)]) (hf : f_Wo_coins_b0 N a0 a1 w = some (r, wz)) (hR : gRep D cA B w H) (hS : va_S (gA B) s.heap H locs) : W p l e ({ frames := 1, cells := 0, slots := 0, locals := 40 } : Room) s m args below meth c H locs 0 0 (MQ below (gQi D cA B r wz) args s 0 0 (gA B)) (F0 m 0 ls []) := by
  obtain ⟨hx, hb, hml, hown, hts, hr, hlocks, hK, hBs⟩ := id C
  unfold f_Wo_coins_b0 at hf
  refine lv_iconst (v := 0) hx hb d_Wo_coins_0 (by decide) ?_
  refine lv_istore_n (lv' := [(2, .int 0), (0, .ref (B + a0)), (1, .int a1)]) hx hb d_Wo_coins_1 rfl hl (by decide) rfl (fun ls hl => ?_)
  refine lv_iconst (v := 0) hx hb d_Wo_coins_2 (by decide) ?_
  refine lv_istore_n (lv' := [(3, .int 0), (2, .int 0), (0, .ref (B + a0)), (1, .int a1)]) hx hb d_Wo_coins_3 rfl hl (by decide) rfl (fun ls hl => ?_)
  exact c_Wo_coins_l4 C a0 a1 0 0 w (lv_sub hl [2, 3, 1, 0] rfl) hf hR hS
theorem c_Wo_coins (l : Launch) (D : va_G) (cA : Nat → ClassId) (oc : gO) (B N : Nat) (a0 : Nat) (a1 : Int32) (w : gW) {wz : gW} {r : Int32} (hf : f_Wo_coins N a0 a1 w = some (r, wz)) : Met l y_Wo_coins (Cond.code y_Wo_coins b_Wo_coins 4 (some .int) :: lw_good) ({ frames := 1, cells := 0, slots := 0, locals := 40 } : Room) (gPre D cA oc B [.ref (B + a0), .int a1] w) (gQi D cA B r wz) 0 0 (gA B) := by
  refine Met.ofW (cc := b_Wo_coins) (maxL := 4) (ret := (some .int)) (by decide +kernel) rfl ?_
  intro p e s m args below meth c s₁ Bd hml hv
  obtain ⟨hargs, C, hR⟩ := gC.enter (l := l) rfl Bd hml hv
  subst hargs
  have hl := lv_entry ([.ref (B + a0), .int a1]) (n := 4) (Nat.le_of_ble_eq_true rfl)
  rw [lg_entry_eq]
  generalize (lg_sl ([.ref (B + a0), .int a1]) ++ List.replicate (4 - (lg_sl ([.ref (B + a0), .int a1])).length) Slot.unset).toArray = ls at hl ⊢
  have hl : lv_has ls 4 [(0, .ref (B + a0)), (1, .int a1)] := hl
  exact c_Wo_coins_b0 C a0 a1 w (lv_sub hl [0, 1] rfl) hf hR va_S.rf
theorem d_Tr_init_0 : decode b_Tr_init 0 = .ok (.aload_n 0, 1) := by decide +kernel
theorem d_Tr_init_1 : decode b_Tr_init 1 = .ok (.invokespecial 3, 3) := by decide +kernel
theorem d_Tr_init_4 : decode b_Tr_init 4 = .ok (.aload_n 0, 1) := by decide +kernel
theorem d_Tr_init_5 : decode b_Tr_init 5 = .ok (.bipush 20, 2) := by decide +kernel
theorem d_Tr_init_7 : decode b_Tr_init 7 = .ok (.newarray .int, 2) := by decide +kernel
theorem d_Tr_init_9 : decode b_Tr_init 9 = .ok (.putfield 9, 3) := by decide +kernel
theorem d_Tr_init_12 : decode b_Tr_init 12 = .ok (.aload_n 0, 1) := by decide +kernel
theorem d_Tr_init_13 : decode b_Tr_init 13 = .ok (.iconst 0, 1) := by decide +kernel
theorem d_Tr_init_14 : decode b_Tr_init 14 = .ok (.putfield 15, 3) := by decide +kernel
theorem d_Tr_init_17 : decode b_Tr_init 17 = .ok (.return_, 1) := by decide +kernel
set_option maxRecDepth 20000 in
theorem c_Tr_init_b0 {r : Unit} {wz : gW} (C : gC p s m args meth c "RidCoppers$Trace" b_Tr_init 1 none D cA oc B) (hin : meth.name = "<init>") (a0 : Nat) (w : gW) {ls : Array Slot} {H : Heap} {locs : List Loc} (hl : lv_has ls 1 [(0, .ref (B + a0))]) (hf : f_Tr_init_b0 N a0 w = some (r, wz)) (hR : gRep D cA B w H) (hS : va_S (gA B) s.heap H locs) : W p l e ({ frames := 1, cells := 1, slots := 20, locals := 60 } : Room) s m args below meth c H locs 0 0 (MQ below (gQv D cA B r wz) args s 1 20 (gA B)) (F0 m 0 ls []) := by
  obtain ⟨hx, hb, hml, hown, hts, hr, hlocks, hK, hBs⟩ := id C
  unfold f_Tr_init_b0 at hf
  refine lv_aload_n hx hb d_Tr_init_0 rfl (lv_at hl 0 rfl) ?_
  refine W.objInit hx hb hown (hts _ m_217) (hts _ m_28) (hts _ m_29) rfl (by rw [hml]; exact hl.1) rfl d_Tr_init_1 (Nat.le_of_ble_eq_true rfl) (Nat.le_of_ble_eq_true rfl) ?_
  refine W.eq (g2 := F0 m 4 ls []) rfl ?_
  refine lv_aload_n hx hb d_Tr_init_4 rfl (lv_at hl 0 rfl) ?_
  refine lv_bipush (v := 20) hx hb d_Tr_init_5 (by decide) ?_
  refine g_newa (kd := 50) (N := 20) hx hb hts hK hR hS (by decide) rfl m_81 (by decide) rfl (Nat.le_of_ble_eq_true rfl) (Nat.le_of_ble_eq_true rfl) (Nat.le_of_ble_eq_true rfl) d_Tr_init_7 (fun H hR hS => ?_)
  refine g_nA hf (fun p1 hf => ?_)
  refine g_nW hf hR (fun w2 hf hR => ?_)
  have ⟨h3, hf⟩ := gd_e hf
  refine g_putFR hx hb hts hown hK hR hS pf_Tr_9 hin (fun _ => rfl) (fun _ => rfl) (fun _ => rfl) h3 d_Tr_init_9 (fun H locs hR hS => ?_)
  refine g_nW hf hR (fun w4 hf hR => ?_)
  refine lv_aload_n hx hb d_Tr_init_12 rfl (lv_at hl 0 rfl) ?_
  refine lv_iconst (v := 0) hx hb d_Tr_init_13 (by decide) ?_
  have ⟨h5, hf⟩ := gd_e hf
  refine g_putI hx hb hts hown hK hR hS pf_Tr_15 (fun _ => rfl) rfl rfl h5 d_Tr_init_14 (fun H locs hR hS => ?_)
  refine g_nW hf hR (fun w6 hf hR => ?_)
  refine W.widen (k := 1) (n := 20) (Nat.le_of_ble_eq_true rfl) (Nat.le_of_ble_eq_true rfl) ?_
  exact g_vret hx hb hr hlocks hR hS hf d_Tr_init_17
theorem c_Tr_init (l : Launch) (D : va_G) (cA : Nat → ClassId) (oc : gO) (B N : Nat) (a0 : Nat) (w : gW) {wz : gW} {r : Unit} (hf : f_Tr_init N a0 w = some (r, wz)) : Met l y_Tr_init (Cond.code y_Tr_init b_Tr_init 1 none :: lw_good) ({ frames := 1, cells := 1, slots := 20, locals := 60 } : Room) (gPre D cA oc B [.ref (B + a0)] w) (gQv D cA B r wz) 1 20 (gA B) := by
  refine Met.ofW (cc := b_Tr_init) (maxL := 1) (ret := none) (by decide +kernel) rfl ?_
  intro p e s m args below meth c s₁ Bd hml hv
  obtain ⟨hargs, C, hR⟩ := gC.enter (l := l) rfl Bd hml hv
  have hin : meth.name = "<init>" := (name_of_methodNamed Bd.named Bd.method).1
  subst hargs
  have hl := lv_entry ([.ref (B + a0)]) (n := 1) (Nat.le_of_ble_eq_true rfl)
  rw [lg_entry_eq]
  generalize (lg_sl ([.ref (B + a0)]) ++ List.replicate (1 - (lg_sl ([.ref (B + a0)])).length) Slot.unset).toArray = ls at hl ⊢
  have hl : lv_has ls 1 [(0, .ref (B + a0))] := hl
  exact c_Tr_init_b0 C hin a0 w (lv_sub hl [0] rfl) hf hR va_S.rf
theorem d_Wo_init_0 : decode b_Wo_init 0 = .ok (.aload_n 0, 1) := by decide +kernel
theorem d_Wo_init_1 : decode b_Wo_init 1 = .ok (.invokespecial 3, 3) := by decide +kernel
theorem d_Wo_init_4 : decode b_Wo_init 4 = .ok (.aload_n 0, 1) := by decide +kernel
theorem d_Wo_init_5 : decode b_Wo_init 5 = .ok (.iconst 4, 1) := by decide +kernel
theorem d_Wo_init_6 : decode b_Wo_init 6 = .ok (.anewarray 9, 3) := by decide +kernel
theorem d_Wo_init_9 : decode b_Wo_init 9 = .ok (.putfield 11, 3) := by decide +kernel
theorem d_Wo_init_12 : decode b_Wo_init 12 = .ok (.aload_n 0, 1) := by decide +kernel
theorem d_Wo_init_13 : decode b_Wo_init 13 = .ok (.iconst 0, 1) := by decide +kernel
theorem d_Wo_init_14 : decode b_Wo_init 14 = .ok (.putfield 17, 3) := by decide +kernel
theorem d_Wo_init_17 : decode b_Wo_init 17 = .ok (.aload_n 0, 1) := by decide +kernel
theorem d_Wo_init_18 : decode b_Wo_init 18 = .ok (.iconst 4, 1) := by decide +kernel
theorem d_Wo_init_19 : decode b_Wo_init 19 = .ok (.bipush 6, 2) := by decide +kernel
theorem d_Wo_init_21 : decode b_Wo_init 21 = .ok (.multianewarray 21 2, 4) := by decide +kernel
theorem d_Wo_init_25 : decode b_Wo_init 25 = .ok (.putfield 23, 3) := by decide +kernel
theorem d_Wo_init_28 : decode b_Wo_init 28 = .ok (.aload_n 0, 1) := by decide +kernel
theorem d_Wo_init_29 : decode b_Wo_init 29 = .ok (.iconst 4, 1) := by decide +kernel
theorem d_Wo_init_30 : decode b_Wo_init 30 = .ok (.iconst 4, 1) := by decide +kernel
theorem d_Wo_init_31 : decode b_Wo_init 31 = .ok (.multianewarray 21 2, 4) := by decide +kernel
theorem d_Wo_init_35 : decode b_Wo_init 35 = .ok (.putfield 26, 3) := by decide +kernel
theorem d_Wo_init_38 : decode b_Wo_init 38 = .ok (.aload_n 0, 1) := by decide +kernel
theorem d_Wo_init_39 : decode b_Wo_init 39 = .ok (.iconst 4, 1) := by decide +kernel
theorem d_Wo_init_40 : decode b_Wo_init 40 = .ok (.newarray .int, 2) := by decide +kernel
theorem d_Wo_init_42 : decode b_Wo_init 42 = .ok (.putfield 29, 3) := by decide +kernel
theorem d_Wo_init_45 : decode b_Wo_init 45 = .ok (.aload_n 0, 1) := by decide +kernel
theorem d_Wo_init_46 : decode b_Wo_init 46 = .ok (.bipush 6, 2) := by decide +kernel
theorem d_Wo_init_48 : decode b_Wo_init 48 = .ok (.newarray .int, 2) := by decide +kernel
theorem d_Wo_init_50 : decode b_Wo_init 50 = .ok (.putfield 33, 3) := by decide +kernel
theorem d_Wo_init_53 : decode b_Wo_init 53 = .ok (.aload_n 0, 1) := by decide +kernel
theorem d_Wo_init_54 : decode b_Wo_init 54 = .ok (.iconst 4, 1) := by decide +kernel
theorem d_Wo_init_55 : decode b_Wo_init 55 = .ok (.newarray .int, 2) := by decide +kernel
theorem d_Wo_init_57 : decode b_Wo_init 57 = .ok (.putfield 36, 3) := by decide +kernel
theorem d_Wo_init_60 : decode b_Wo_init 60 = .ok (.aload_n 0, 1) := by decide +kernel
theorem d_Wo_init_61 : decode b_Wo_init 61 = .ok (.iconst 0, 1) := by decide +kernel
theorem d_Wo_init_62 : decode b_Wo_init 62 = .ok (.putfield 39, 3) := by decide +kernel
theorem d_Wo_init_65 : decode b_Wo_init 65 = .ok (.aload_n 0, 1) := by decide +kernel
theorem d_Wo_init_66 : decode b_Wo_init 66 = .ok (.iconst 4, 1) := by decide +kernel
theorem d_Wo_init_67 : decode b_Wo_init 67 = .ok (.newarray .int, 2) := by decide +kernel
theorem d_Wo_init_69 : decode b_Wo_init 69 = .ok (.putfield 42, 3) := by decide +kernel
theorem d_Wo_init_72 : decode b_Wo_init 72 = .ok (.aload_n 0, 1) := by decide +kernel
theorem d_Wo_init_73 : decode b_Wo_init 73 = .ok (.iconst 4, 1) := by decide +kernel
theorem d_Wo_init_74 : decode b_Wo_init 74 = .ok (.newarray .int, 2) := by decide +kernel
theorem d_Wo_init_76 : decode b_Wo_init 76 = .ok (.putfield 45, 3) := by decide +kernel
theorem d_Wo_init_79 : decode b_Wo_init 79 = .ok (.aload_n 0, 1) := by decide +kernel
theorem d_Wo_init_80 : decode b_Wo_init 80 = .ok (.iconst 0, 1) := by decide +kernel
theorem d_Wo_init_81 : decode b_Wo_init 81 = .ok (.putfield 48, 3) := by decide +kernel
theorem d_Wo_init_84 : decode b_Wo_init 84 = .ok (.aload_n 0, 1) := by decide +kernel
theorem d_Wo_init_85 : decode b_Wo_init 85 = .ok (.bipush 8, 2) := by decide +kernel
theorem d_Wo_init_87 : decode b_Wo_init 87 = .ok (.newarray .int, 2) := by decide +kernel
theorem d_Wo_init_89 : decode b_Wo_init 89 = .ok (.putfield 51, 3) := by decide +kernel
theorem d_Wo_init_92 : decode b_Wo_init 92 = .ok (.aload_n 0, 1) := by decide +kernel
theorem d_Wo_init_93 : decode b_Wo_init 93 = .ok (.bipush 8, 2) := by decide +kernel
theorem d_Wo_init_95 : decode b_Wo_init 95 = .ok (.newarray .int, 2) := by decide +kernel
theorem d_Wo_init_97 : decode b_Wo_init 97 = .ok (.putfield 54, 3) := by decide +kernel
theorem d_Wo_init_100 : decode b_Wo_init 100 = .ok (.aload_n 0, 1) := by decide +kernel
theorem d_Wo_init_101 : decode b_Wo_init 101 = .ok (.iconst 0, 1) := by decide +kernel
theorem d_Wo_init_102 : decode b_Wo_init 102 = .ok (.putfield 57, 3) := by decide +kernel
theorem d_Wo_init_105 : decode b_Wo_init 105 = .ok (.aload_n 0, 1) := by decide +kernel
theorem d_Wo_init_106 : decode b_Wo_init 106 = .ok (.aload_n 1, 1) := by decide +kernel
theorem d_Wo_init_107 : decode b_Wo_init 107 = .ok (.putfield 60, 3) := by decide +kernel
theorem d_Wo_init_110 : decode b_Wo_init 110 = .ok (.return_, 1) := by decide +kernel
set_option maxRecDepth 20000 in
theorem c_Wo_init_b0 {r : Unit} {wz : gW} (C : gC p s m args meth c "RidCoppers$World" b_Wo_init 2 none D cA oc B) (hin : meth.name = "<init>") (a0 : Nat) (a1 : Nat) (w : gW) {ls : Array Slot} {H : Heap} {locs : List Loc} (hl : lv_has ls 2 [(0, .ref (B + a0)), (1, .ref (B + a1))]) (hf : f_Wo_init_b0 N a0 a1 w = some (r, wz)) (hR : gRep D cA B w H) (hS : va_S (gA B) s.heap H locs) : W p l e ({ frames := 1, cells := 18, slots := 90, locals := 60 } : Room) s m args below meth c H locs 0 0 (MQ below (gQv D cA B r wz) args s 18 90 (gA B)) (F0 m 0 ls []) := by
  obtain ⟨hx, hb, hml, hown, hts, hr, hlocks, hK, hBs⟩ := id C
  unfold f_Wo_init_b0 at hf
  refine lv_aload_n hx hb d_Wo_init_0 rfl (lv_at hl 0 rfl) ?_
  refine W.objInit hx hb hown (hts _ m_87) (hts _ m_28) (hts _ m_29) rfl (by rw [hml]; exact hl.1) rfl d_Wo_init_1 (Nat.le_of_ble_eq_true rfl) (Nat.le_of_ble_eq_true rfl) ?_
  refine W.eq (g2 := F0 m 4 ls []) rfl ?_
  refine lv_aload_n hx hb d_Wo_init_4 rfl (lv_at hl 0 rfl) ?_
  refine lv_iconst (v := 4) hx hb d_Wo_init_5 (by decide) ?_
  refine g_anew (kd := 54) (N := 4) hx hb hts hown hK hR hS (by decide) rfl m_88 hK.2.2.2.2.1.1 (by decide) rfl (Nat.le_of_ble_eq_true rfl) (Nat.le_of_ble_eq_true rfl) (Nat.le_of_ble_eq_true rfl) d_Wo_init_6 (fun H hR hS => ?_)
  refine g_nA hf (fun p1 hf => ?_)
  refine g_nW hf hR (fun w2 hf hR => ?_)
  have ⟨h3, hf⟩ := gd_e hf
  refine g_putFR hx hb hts hown hK hR hS pf_Wo_11 hin (fun _ => rfl) (fun _ => rfl) (fun _ => rfl) h3 d_Wo_init_9 (fun H locs hR hS => ?_)
  refine g_nW hf hR (fun w4 hf hR => ?_)
  refine lv_aload_n hx hb d_Wo_init_12 rfl (lv_at hl 0 rfl) ?_
  refine lv_iconst (v := 0) hx hb d_Wo_init_13 (by decide) ?_
  have ⟨h5, hf⟩ := gd_e hf
  refine g_putI hx hb hts hown hK hR hS pf_Wo_17 (fun _ => rfl) rfl rfl h5 d_Wo_init_14 (fun H locs hR hS => ?_)
  refine g_nW hf hR (fun w6 hf hR => ?_)
  refine lv_aload_n hx hb d_Wo_init_17 rfl (lv_at hl 0 rfl) ?_
  refine lv_iconst (v := 4) hx hb d_Wo_init_18 (by decide) ?_
  refine lv_bipush (v := 6) hx hb d_Wo_init_19 (by decide) ?_
  refine g_mna (ko := 56) (kd := 50) (N := 4) (K := 6) (ty := .int) hx hb hts hown hK hR hS (by decide) (by decide) rfl rfl ⟨fun h => (by cases h), fun h => (by cases h)⟩ (show Cond.classLink "RidCoppers$World" 21 ("[" ++ (FieldType.array .int).toString) ∈ lw_good from (show ("[" ++ (FieldType.array .int).toString) = "[[I" from by decide +kernel) ▸ m_90) hK.2.2.2.2.1.2.2.1 m_81 (by decide) (by decide) rfl rfl (Nat.le_of_ble_eq_true rfl) (Nat.le_of_ble_eq_true rfl) (Nat.le_of_ble_eq_true rfl) rfl rfl (Nat.le_of_ble_eq_true rfl) (Nat.le_of_ble_eq_true rfl) d_Wo_init_21 (fun H hR hS => ?_)
  refine g_nA hf (fun p7 hf => ?_)
  refine g_nW hf hR (fun w8 hf hR => ?_)
  have ⟨h9, hf⟩ := gd_e hf
  refine g_putFR hx hb hts hown hK hR hS pf_Wo_23 hin (fun _ => rfl) (fun _ => rfl) (fun _ => rfl) h9 d_Wo_init_25 (fun H locs hR hS => ?_)
  refine g_nW hf hR (fun w10 hf hR => ?_)
  refine lv_aload_n hx hb d_Wo_init_28 rfl (lv_at hl 0 rfl) ?_
  refine lv_iconst (v := 4) hx hb d_Wo_init_29 (by decide) ?_
  refine lv_iconst (v := 4) hx hb d_Wo_init_30 (by decide) ?_
  refine g_mna (ko := 56) (kd := 50) (N := 4) (K := 4) (ty := .int) hx hb hts hown hK hR hS (by decide) (by decide) rfl rfl ⟨fun h => (by cases h), fun h => (by cases h)⟩ (show Cond.classLink "RidCoppers$World" 21 ("[" ++ (FieldType.array .int).toString) ∈ lw_good from (show ("[" ++ (FieldType.array .int).toString) = "[[I" from by decide +kernel) ▸ m_90) hK.2.2.2.2.1.2.2.1 m_81 (by decide) (by decide) rfl rfl (Nat.le_of_ble_eq_true rfl) (Nat.le_of_ble_eq_true rfl) (Nat.le_of_ble_eq_true rfl) rfl rfl (Nat.le_of_ble_eq_true rfl) (Nat.le_of_ble_eq_true rfl) d_Wo_init_31 (fun H hR hS => ?_)
  refine g_nA hf (fun p11 hf => ?_)
  refine g_nW hf hR (fun w12 hf hR => ?_)
  have ⟨h13, hf⟩ := gd_e hf
  refine g_putFR hx hb hts hown hK hR hS pf_Wo_26 hin (fun _ => rfl) (fun _ => rfl) (fun _ => rfl) h13 d_Wo_init_35 (fun H locs hR hS => ?_)
  refine g_nW hf hR (fun w14 hf hR => ?_)
  refine lv_aload_n hx hb d_Wo_init_38 rfl (lv_at hl 0 rfl) ?_
  refine lv_iconst (v := 4) hx hb d_Wo_init_39 (by decide) ?_
  refine g_newa (kd := 50) (N := 4) hx hb hts hK hR hS (by decide) rfl m_81 (by decide) rfl (Nat.le_of_ble_eq_true rfl) (Nat.le_of_ble_eq_true rfl) (Nat.le_of_ble_eq_true rfl) d_Wo_init_40 (fun H hR hS => ?_)
  refine g_nA hf (fun p15 hf => ?_)
  refine g_nW hf hR (fun w16 hf hR => ?_)
  have ⟨h17, hf⟩ := gd_e hf
  refine g_putFR hx hb hts hown hK hR hS pf_Wo_29 hin (fun _ => rfl) (fun _ => rfl) (fun _ => rfl) h17 d_Wo_init_42 (fun H locs hR hS => ?_)
  refine g_nW hf hR (fun w18 hf hR => ?_)
  refine lv_aload_n hx hb d_Wo_init_45 rfl (lv_at hl 0 rfl) ?_
  refine lv_bipush (v := 6) hx hb d_Wo_init_46 (by decide) ?_
  refine g_newa (kd := 50) (N := 6) hx hb hts hK hR hS (by decide) rfl m_81 (by decide) rfl (Nat.le_of_ble_eq_true rfl) (Nat.le_of_ble_eq_true rfl) (Nat.le_of_ble_eq_true rfl) d_Wo_init_48 (fun H hR hS => ?_)
  refine g_nA hf (fun p19 hf => ?_)
  refine g_nW hf hR (fun w20 hf hR => ?_)
  have ⟨h21, hf⟩ := gd_e hf
  refine g_putFR hx hb hts hown hK hR hS pf_Wo_33 hin (fun _ => rfl) (fun _ => rfl) (fun _ => rfl) h21 d_Wo_init_50 (fun H locs hR hS => ?_)
  refine g_nW hf hR (fun w22 hf hR => ?_)
  refine lv_aload_n hx hb d_Wo_init_53 rfl (lv_at hl 0 rfl) ?_
  refine lv_iconst (v := 4) hx hb d_Wo_init_54 (by decide) ?_
  refine g_newa (kd := 50) (N := 4) hx hb hts hK hR hS (by decide) rfl m_81 (by decide) rfl (Nat.le_of_ble_eq_true rfl) (Nat.le_of_ble_eq_true rfl) (Nat.le_of_ble_eq_true rfl) d_Wo_init_55 (fun H hR hS => ?_)
  refine g_nA hf (fun p23 hf => ?_)
  refine g_nW hf hR (fun w24 hf hR => ?_)
  have ⟨h25, hf⟩ := gd_e hf
  refine g_putFR hx hb hts hown hK hR hS pf_Wo_36 hin (fun _ => rfl) (fun _ => rfl) (fun _ => rfl) h25 d_Wo_init_57 (fun H locs hR hS => ?_)
  refine g_nW hf hR (fun w26 hf hR => ?_)
  refine lv_aload_n hx hb d_Wo_init_60 rfl (lv_at hl 0 rfl) ?_
  refine lv_iconst (v := 0) hx hb d_Wo_init_61 (by decide) ?_
  have ⟨h27, hf⟩ := gd_e hf
  refine g_putI hx hb hts hown hK hR hS pf_Wo_39 (fun _ => rfl) rfl rfl h27 d_Wo_init_62 (fun H locs hR hS => ?_)
  refine g_nW hf hR (fun w28 hf hR => ?_)
  refine lv_aload_n hx hb d_Wo_init_65 rfl (lv_at hl 0 rfl) ?_
  refine lv_iconst (v := 4) hx hb d_Wo_init_66 (by decide) ?_
  refine g_newa (kd := 50) (N := 4) hx hb hts hK hR hS (by decide) rfl m_81 (by decide) rfl (Nat.le_of_ble_eq_true rfl) (Nat.le_of_ble_eq_true rfl) (Nat.le_of_ble_eq_true rfl) d_Wo_init_67 (fun H hR hS => ?_)
  refine g_nA hf (fun p29 hf => ?_)
  refine g_nW hf hR (fun w30 hf hR => ?_)
  have ⟨h31, hf⟩ := gd_e hf
  refine g_putFR hx hb hts hown hK hR hS pf_Wo_42 hin (fun _ => rfl) (fun _ => rfl) (fun _ => rfl) h31 d_Wo_init_69 (fun H locs hR hS => ?_)
  refine g_nW hf hR (fun w32 hf hR => ?_)
  refine lv_aload_n hx hb d_Wo_init_72 rfl (lv_at hl 0 rfl) ?_
  refine lv_iconst (v := 4) hx hb d_Wo_init_73 (by decide) ?_
  refine g_newa (kd := 50) (N := 4) hx hb hts hK hR hS (by decide) rfl m_81 (by decide) rfl (Nat.le_of_ble_eq_true rfl) (Nat.le_of_ble_eq_true rfl) (Nat.le_of_ble_eq_true rfl) d_Wo_init_74 (fun H hR hS => ?_)
  refine g_nA hf (fun p33 hf => ?_)
  refine g_nW hf hR (fun w34 hf hR => ?_)
  have ⟨h35, hf⟩ := gd_e hf
  refine g_putFR hx hb hts hown hK hR hS pf_Wo_45 hin (fun _ => rfl) (fun _ => rfl) (fun _ => rfl) h35 d_Wo_init_76 (fun H locs hR hS => ?_)
  refine g_nW hf hR (fun w36 hf hR => ?_)
  refine lv_aload_n hx hb d_Wo_init_79 rfl (lv_at hl 0 rfl) ?_
  refine lv_iconst (v := 0) hx hb d_Wo_init_80 (by decide) ?_
  have ⟨h37, hf⟩ := gd_e hf
  refine g_putI hx hb hts hown hK hR hS pf_Wo_48 (fun _ => rfl) rfl rfl h37 d_Wo_init_81 (fun H locs hR hS => ?_)
  refine g_nW hf hR (fun w38 hf hR => ?_)
  refine lv_aload_n hx hb d_Wo_init_84 rfl (lv_at hl 0 rfl) ?_
  refine lv_bipush (v := 8) hx hb d_Wo_init_85 (by decide) ?_
  refine g_newa (kd := 50) (N := 8) hx hb hts hK hR hS (by decide) rfl m_81 (by decide) rfl (Nat.le_of_ble_eq_true rfl) (Nat.le_of_ble_eq_true rfl) (Nat.le_of_ble_eq_true rfl) d_Wo_init_87 (fun H hR hS => ?_)
  refine g_nA hf (fun p39 hf => ?_)
  refine g_nW hf hR (fun w40 hf hR => ?_)
  have ⟨h41, hf⟩ := gd_e hf
  refine g_putFR hx hb hts hown hK hR hS pf_Wo_51 hin (fun _ => rfl) (fun _ => rfl) (fun _ => rfl) h41 d_Wo_init_89 (fun H locs hR hS => ?_)
  refine g_nW hf hR (fun w42 hf hR => ?_)
  refine lv_aload_n hx hb d_Wo_init_92 rfl (lv_at hl 0 rfl) ?_
  refine lv_bipush (v := 8) hx hb d_Wo_init_93 (by decide) ?_
  refine g_newa (kd := 50) (N := 8) hx hb hts hK hR hS (by decide) rfl m_81 (by decide) rfl (Nat.le_of_ble_eq_true rfl) (Nat.le_of_ble_eq_true rfl) (Nat.le_of_ble_eq_true rfl) d_Wo_init_95 (fun H hR hS => ?_)
  refine g_nA hf (fun p43 hf => ?_)
  refine g_nW hf hR (fun w44 hf hR => ?_)
  have ⟨h45, hf⟩ := gd_e hf
  refine g_putFR hx hb hts hown hK hR hS pf_Wo_54 hin (fun _ => rfl) (fun _ => rfl) (fun _ => rfl) h45 d_Wo_init_97 (fun H locs hR hS => ?_)
  refine g_nW hf hR (fun w46 hf hR => ?_)
  refine lv_aload_n hx hb d_Wo_init_100 rfl (lv_at hl 0 rfl) ?_
  refine lv_iconst (v := 0) hx hb d_Wo_init_101 (by decide) ?_
  have ⟨h47, hf⟩ := gd_e hf
  refine g_putI hx hb hts hown hK hR hS pf_Wo_57 (fun _ => rfl) rfl rfl h47 d_Wo_init_102 (fun H locs hR hS => ?_)
  refine g_nW hf hR (fun w48 hf hR => ?_)
  refine lv_aload_n hx hb d_Wo_init_105 rfl (lv_at hl 0 rfl) ?_
  refine lv_aload_n hx hb d_Wo_init_106 rfl (lv_at hl 1 rfl) ?_
  have ⟨h49, hf⟩ := gd_e hf
  refine g_putR hx hb hts hown hK hR hS pf_Wo_60 (fun _ => rfl) (fun _ => rfl) (fun _ => rfl) h49 d_Wo_init_107 (fun H locs hR hS => ?_)
  refine g_nW hf hR (fun w50 hf hR => ?_)
  refine W.widen (k := 18) (n := 90) (Nat.le_of_ble_eq_true rfl) (Nat.le_of_ble_eq_true rfl) ?_
  exact g_vret hx hb hr hlocks hR hS hf d_Wo_init_110
theorem c_Wo_init (l : Launch) (D : va_G) (cA : Nat → ClassId) (oc : gO) (B N : Nat) (a0 : Nat) (a1 : Nat) (w : gW) {wz : gW} {r : Unit} (hf : f_Wo_init N a0 a1 w = some (r, wz)) : Met l y_Wo_init (Cond.code y_Wo_init b_Wo_init 2 none :: lw_good) ({ frames := 1, cells := 18, slots := 90, locals := 60 } : Room) (gPre D cA oc B [.ref (B + a0), .ref (B + a1)] w) (gQv D cA B r wz) 18 90 (gA B) := by
  refine Met.ofW (cc := b_Wo_init) (maxL := 2) (ret := none) (by decide +kernel) rfl ?_
  intro p e s m args below meth c s₁ Bd hml hv
  obtain ⟨hargs, C, hR⟩ := gC.enter (l := l) rfl Bd hml hv
  have hin : meth.name = "<init>" := (name_of_methodNamed Bd.named Bd.method).1
  subst hargs
  have hl := lv_entry ([.ref (B + a0), .ref (B + a1)]) (n := 2) (Nat.le_of_ble_eq_true rfl)
  rw [lg_entry_eq]
  generalize (lg_sl ([.ref (B + a0), .ref (B + a1)]) ++ List.replicate (2 - (lg_sl ([.ref (B + a0), .ref (B + a1)])).length) Slot.unset).toArray = ls at hl ⊢
  have hl : lv_has ls 2 [(0, .ref (B + a0)), (1, .ref (B + a1))] := hl
  exact c_Wo_init_b0 C hin a0 a1 w (lv_sub hl [0, 1] rfl) hf hR va_S.rf
theorem d_Wo_become_0 : decode b_Wo_become 0 = .ok (.iconst 0, 1) := by decide +kernel
theorem d_Wo_become_1 : decode b_Wo_become 1 = .ok (.istore_n 2, 1) := by decide +kernel
theorem d_Wo_become_2 : decode b_Wo_become 2 = .ok (.iload_n 2, 1) := by decide +kernel
theorem d_Wo_become_3 : decode b_Wo_become 3 = .ok (.iconst 4, 1) := by decide +kernel
theorem d_Wo_become_4 : decode b_Wo_become 4 = .ok (.if_icmp .ge 70, 3) := by decide +kernel
theorem d_Wo_become_7 : decode b_Wo_become 7 = .ok (.aload_n 0, 1) := by decide +kernel
theorem d_Wo_become_8 : decode b_Wo_become 8 = .ok (.getfield 11, 3) := by decide +kernel
theorem d_Wo_become_11 : decode b_Wo_become 11 = .ok (.iload_n 2, 1) := by decide +kernel
theorem d_Wo_become_12 : decode b_Wo_become 12 = .ok (.aload_n 1, 1) := by decide +kernel
theorem d_Wo_become_13 : decode b_Wo_become 13 = .ok (.getfield 11, 3) := by decide +kernel
theorem d_Wo_become_16 : decode b_Wo_become 16 = .ok (.iload_n 2, 1) := by decide +kernel
theorem d_Wo_become_17 : decode b_Wo_become 17 = .ok (.aaload, 1) := by decide +kernel
theorem d_Wo_become_18 : decode b_Wo_become 18 = .ok (.aastore, 1) := by decide +kernel
theorem d_Wo_become_19 : decode b_Wo_become 19 = .ok (.aload_n 0, 1) := by decide +kernel
theorem d_Wo_become_20 : decode b_Wo_become 20 = .ok (.getfield 29, 3) := by decide +kernel
theorem d_Wo_become_23 : decode b_Wo_become 23 = .ok (.iload_n 2, 1) := by decide +kernel
theorem d_Wo_become_24 : decode b_Wo_become 24 = .ok (.aload_n 1, 1) := by decide +kernel
theorem d_Wo_become_25 : decode b_Wo_become 25 = .ok (.getfield 29, 3) := by decide +kernel
theorem d_Wo_become_28 : decode b_Wo_become 28 = .ok (.iload_n 2, 1) := by decide +kernel
theorem d_Wo_become_29 : decode b_Wo_become 29 = .ok (.iaload, 1) := by decide +kernel
theorem d_Wo_become_30 : decode b_Wo_become 30 = .ok (.iastore, 1) := by decide +kernel
theorem d_Wo_become_31 : decode b_Wo_become 31 = .ok (.aload_n 1, 1) := by decide +kernel
theorem d_Wo_become_32 : decode b_Wo_become 32 = .ok (.getfield 23, 3) := by decide +kernel
theorem d_Wo_become_35 : decode b_Wo_become 35 = .ok (.iload_n 2, 1) := by decide +kernel
theorem d_Wo_become_36 : decode b_Wo_become 36 = .ok (.aaload, 1) := by decide +kernel
theorem d_Wo_become_37 : decode b_Wo_become 37 = .ok (.iconst 0, 1) := by decide +kernel
theorem d_Wo_become_38 : decode b_Wo_become 38 = .ok (.aload_n 0, 1) := by decide +kernel
theorem d_Wo_become_39 : decode b_Wo_become 39 = .ok (.getfield 23, 3) := by decide +kernel
theorem d_Wo_become_42 : decode b_Wo_become 42 = .ok (.iload_n 2, 1) := by decide +kernel
theorem d_Wo_become_43 : decode b_Wo_become 43 = .ok (.aaload, 1) := by decide +kernel
theorem d_Wo_become_44 : decode b_Wo_become 44 = .ok (.iconst 0, 1) := by decide +kernel
theorem d_Wo_become_45 : decode b_Wo_become 45 = .ok (.bipush 6, 2) := by decide +kernel
theorem d_Wo_become_47 : decode b_Wo_become 47 = .ok (.invokestatic 64, 3) := by decide +kernel
theorem d_Wo_become_50 : decode b_Wo_become 50 = .ok (.aload_n 1, 1) := by decide +kernel
theorem d_Wo_become_51 : decode b_Wo_become 51 = .ok (.getfield 26, 3) := by decide +kernel
theorem d_Wo_become_54 : decode b_Wo_become 54 = .ok (.iload_n 2, 1) := by decide +kernel
theorem d_Wo_become_55 : decode b_Wo_become 55 = .ok (.aaload, 1) := by decide +kernel
theorem d_Wo_become_56 : decode b_Wo_become 56 = .ok (.iconst 0, 1) := by decide +kernel
theorem d_Wo_become_57 : decode b_Wo_become 57 = .ok (.aload_n 0, 1) := by decide +kernel
theorem d_Wo_become_58 : decode b_Wo_become 58 = .ok (.getfield 26, 3) := by decide +kernel
theorem d_Wo_become_61 : decode b_Wo_become 61 = .ok (.iload_n 2, 1) := by decide +kernel
theorem d_Wo_become_62 : decode b_Wo_become 62 = .ok (.aaload, 1) := by decide +kernel
theorem d_Wo_become_63 : decode b_Wo_become 63 = .ok (.iconst 0, 1) := by decide +kernel
theorem d_Wo_become_64 : decode b_Wo_become 64 = .ok (.iconst 4, 1) := by decide +kernel
theorem d_Wo_become_65 : decode b_Wo_become 65 = .ok (.invokestatic 64, 3) := by decide +kernel
theorem d_Wo_become_68 : decode b_Wo_become 68 = .ok (.iinc 2 1, 3) := by decide +kernel
theorem d_Wo_become_71 : decode b_Wo_become 71 = .ok (.goto (-69), 3) := by decide +kernel
theorem d_Wo_become_74 : decode b_Wo_become 74 = .ok (.aload_n 0, 1) := by decide +kernel
theorem d_Wo_become_75 : decode b_Wo_become 75 = .ok (.aload_n 1, 1) := by decide +kernel
theorem d_Wo_become_76 : decode b_Wo_become 76 = .ok (.getfield 17, 3) := by decide +kernel
theorem d_Wo_become_79 : decode b_Wo_become 79 = .ok (.putfield 17, 3) := by decide +kernel
theorem d_Wo_become_82 : decode b_Wo_become 82 = .ok (.aload_n 1, 1) := by decide +kernel
theorem d_Wo_become_83 : decode b_Wo_become 83 = .ok (.getfield 33, 3) := by decide +kernel
theorem d_Wo_become_86 : decode b_Wo_become 86 = .ok (.iconst 0, 1) := by decide +kernel
theorem d_Wo_become_87 : decode b_Wo_become 87 = .ok (.aload_n 0, 1) := by decide +kernel
theorem d_Wo_become_88 : decode b_Wo_become 88 = .ok (.getfield 33, 3) := by decide +kernel
theorem d_Wo_become_91 : decode b_Wo_become 91 = .ok (.iconst 0, 1) := by decide +kernel
theorem d_Wo_become_92 : decode b_Wo_become 92 = .ok (.bipush 6, 2) := by decide +kernel
theorem d_Wo_become_94 : decode b_Wo_become 94 = .ok (.invokestatic 64, 3) := by decide +kernel
theorem d_Wo_become_97 : decode b_Wo_become 97 = .ok (.aload_n 1, 1) := by decide +kernel
theorem d_Wo_become_98 : decode b_Wo_become 98 = .ok (.getfield 36, 3) := by decide +kernel
theorem d_Wo_become_101 : decode b_Wo_become 101 = .ok (.iconst 0, 1) := by decide +kernel
theorem d_Wo_become_102 : decode b_Wo_become 102 = .ok (.aload_n 0, 1) := by decide +kernel
theorem d_Wo_become_103 : decode b_Wo_become 103 = .ok (.getfield 36, 3) := by decide +kernel
theorem d_Wo_become_106 : decode b_Wo_become 106 = .ok (.iconst 0, 1) := by decide +kernel
theorem d_Wo_become_107 : decode b_Wo_become 107 = .ok (.iconst 4, 1) := by decide +kernel
theorem d_Wo_become_108 : decode b_Wo_become 108 = .ok (.invokestatic 64, 3) := by decide +kernel
theorem d_Wo_become_111 : decode b_Wo_become 111 = .ok (.aload_n 0, 1) := by decide +kernel
theorem d_Wo_become_112 : decode b_Wo_become 112 = .ok (.aload_n 1, 1) := by decide +kernel
theorem d_Wo_become_113 : decode b_Wo_become 113 = .ok (.getfield 39, 3) := by decide +kernel
theorem d_Wo_become_116 : decode b_Wo_become 116 = .ok (.putfield 39, 3) := by decide +kernel
theorem d_Wo_become_119 : decode b_Wo_become 119 = .ok (.aload_n 1, 1) := by decide +kernel
theorem d_Wo_become_120 : decode b_Wo_become 120 = .ok (.getfield 42, 3) := by decide +kernel
theorem d_Wo_become_123 : decode b_Wo_become 123 = .ok (.iconst 0, 1) := by decide +kernel
theorem d_Wo_become_124 : decode b_Wo_become 124 = .ok (.aload_n 0, 1) := by decide +kernel
theorem d_Wo_become_125 : decode b_Wo_become 125 = .ok (.getfield 42, 3) := by decide +kernel
theorem d_Wo_become_128 : decode b_Wo_become 128 = .ok (.iconst 0, 1) := by decide +kernel
theorem d_Wo_become_129 : decode b_Wo_become 129 = .ok (.iconst 4, 1) := by decide +kernel
theorem d_Wo_become_130 : decode b_Wo_become 130 = .ok (.invokestatic 64, 3) := by decide +kernel
theorem d_Wo_become_133 : decode b_Wo_become 133 = .ok (.aload_n 1, 1) := by decide +kernel
theorem d_Wo_become_134 : decode b_Wo_become 134 = .ok (.getfield 45, 3) := by decide +kernel
theorem d_Wo_become_137 : decode b_Wo_become 137 = .ok (.iconst 0, 1) := by decide +kernel
theorem d_Wo_become_138 : decode b_Wo_become 138 = .ok (.aload_n 0, 1) := by decide +kernel
theorem d_Wo_become_139 : decode b_Wo_become 139 = .ok (.getfield 45, 3) := by decide +kernel
theorem d_Wo_become_142 : decode b_Wo_become 142 = .ok (.iconst 0, 1) := by decide +kernel
theorem d_Wo_become_143 : decode b_Wo_become 143 = .ok (.iconst 4, 1) := by decide +kernel
theorem d_Wo_become_144 : decode b_Wo_become 144 = .ok (.invokestatic 64, 3) := by decide +kernel
theorem d_Wo_become_147 : decode b_Wo_become 147 = .ok (.aload_n 0, 1) := by decide +kernel
theorem d_Wo_become_148 : decode b_Wo_become 148 = .ok (.aload_n 1, 1) := by decide +kernel
theorem d_Wo_become_149 : decode b_Wo_become 149 = .ok (.getfield 48, 3) := by decide +kernel
theorem d_Wo_become_152 : decode b_Wo_become 152 = .ok (.putfield 48, 3) := by decide +kernel
theorem d_Wo_become_155 : decode b_Wo_become 155 = .ok (.aload_n 1, 1) := by decide +kernel
theorem d_Wo_become_156 : decode b_Wo_become 156 = .ok (.getfield 51, 3) := by decide +kernel
theorem d_Wo_become_159 : decode b_Wo_become 159 = .ok (.iconst 0, 1) := by decide +kernel
theorem d_Wo_become_160 : decode b_Wo_become 160 = .ok (.aload_n 0, 1) := by decide +kernel
theorem d_Wo_become_161 : decode b_Wo_become 161 = .ok (.getfield 51, 3) := by decide +kernel
theorem d_Wo_become_164 : decode b_Wo_become 164 = .ok (.iconst 0, 1) := by decide +kernel
theorem d_Wo_become_165 : decode b_Wo_become 165 = .ok (.bipush 8, 2) := by decide +kernel
theorem d_Wo_become_167 : decode b_Wo_become 167 = .ok (.invokestatic 64, 3) := by decide +kernel
theorem d_Wo_become_170 : decode b_Wo_become 170 = .ok (.aload_n 1, 1) := by decide +kernel
theorem d_Wo_become_171 : decode b_Wo_become 171 = .ok (.getfield 54, 3) := by decide +kernel
theorem d_Wo_become_174 : decode b_Wo_become 174 = .ok (.iconst 0, 1) := by decide +kernel
theorem d_Wo_become_175 : decode b_Wo_become 175 = .ok (.aload_n 0, 1) := by decide +kernel
theorem d_Wo_become_176 : decode b_Wo_become 176 = .ok (.getfield 54, 3) := by decide +kernel
theorem d_Wo_become_179 : decode b_Wo_become 179 = .ok (.iconst 0, 1) := by decide +kernel
theorem d_Wo_become_180 : decode b_Wo_become 180 = .ok (.bipush 8, 2) := by decide +kernel
theorem d_Wo_become_182 : decode b_Wo_become 182 = .ok (.invokestatic 64, 3) := by decide +kernel
theorem d_Wo_become_185 : decode b_Wo_become 185 = .ok (.aload_n 0, 1) := by decide +kernel
theorem d_Wo_become_186 : decode b_Wo_become 186 = .ok (.aload_n 1, 1) := by decide +kernel
theorem d_Wo_become_187 : decode b_Wo_become 187 = .ok (.getfield 57, 3) := by decide +kernel
theorem d_Wo_become_190 : decode b_Wo_become 190 = .ok (.putfield 57, 3) := by decide +kernel
theorem d_Wo_become_193 : decode b_Wo_become 193 = .ok (.aload_n 0, 1) := by decide +kernel
theorem d_Wo_become_194 : decode b_Wo_become 194 = .ok (.aload_n 1, 1) := by decide +kernel
theorem d_Wo_become_195 : decode b_Wo_become 195 = .ok (.getfield 60, 3) := by decide +kernel
theorem d_Wo_become_198 : decode b_Wo_become 198 = .ok (.putfield 60, 3) := by decide +kernel
theorem d_Wo_become_201 : decode b_Wo_become 201 = .ok (.return_, 1) := by decide +kernel
set_option maxRecDepth 20000 in
theorem c_Wo_become_b2 {r : Unit} {wz : gW} {rec2 : Nat × Nat × Int32 × gW → Option (Unit × gW)} (ih2 : ∀ (a0 : Nat) (a1 : Nat) (a2 : Int32) (w : gW) (ls : Array Slot) (H : Heap) (locs : List Loc), rec2 (a0, a1, a2, w) = some (r, wz) → lv_has ls 3 [(0, .ref (B + a0)), (1, .ref (B + a1)), (2, .int a2)] → gRep D cA B w H → va_S (gA B) s.heap H locs → W p l e ({ frames := 1, cells := 0, slots := 0, locals := 60 } : Room) s m args below meth c H locs 0 0 (MQ below (gQv D cA B r wz) args s 0 0 (gA B)) (F0 m 2 ls [])) (C : gC p s m args meth c "RidCoppers$World" b_Wo_become 3 none D cA oc B) (a0 : Nat) (a1 : Nat) (a2 : Int32) (w : gW) {ls : Array Slot} {H : Heap} {locs : List Loc} (hl : lv_has ls 3 [(0, .ref (B + a0)), (1, .ref (B + a1)), (2, .int a2)]) (hf : f_Wo_become_b2 N rec2 a0 a1 a2 w = some (r, wz)) (hR : gRep D cA B w H) (hS : va_S (gA B) s.heap H locs) : W p l e ({ frames := 1, cells := 0, slots := 0, locals := 60 } : Room) s m args below meth c H locs 0 0 (MQ below (gQv D cA B r wz) args s 0 0 (gA B)) (F0 m 2 ls []) := by
  obtain ⟨hx, hb, hml, hown, hts, hr, hlocks, hK, hBs⟩ := id C
  unfold f_Wo_become_b2 at hf
  refine lv_iload_n hx hb d_Wo_become_2 rfl (lv_at hl 2 rfl) ?_
  refine lv_iconst (v := 4) hx hb d_Wo_become_3 (by decide) ?_
  refine lv_icmp_ge (tgt := 74) hx hb d_Wo_become_4 (by decide) (fun hc => ?_) (fun hc => ?_)
  · have hf := cd_t hc hf
    refine lv_aload_n hx hb d_Wo_become_74 rfl (lv_at hl 0 rfl) ?_
    refine lv_aload_n hx hb d_Wo_become_75 rfl (lv_at hl 1 rfl) ?_
    have ⟨h1, hf⟩ := gd_e hf
    refine g_getI hx hb hts hown hK hR fl_Wo_17 (fun _ => rfl) h1 d_Wo_become_76 ?_
    refine g_nI hf (fun x2 hf => ?_)
    have ⟨h3, hf⟩ := gd_e hf
    refine g_putI hx hb hts hown hK hR hS pf_Wo_17 (fun _ => rfl) rfl rfl h3 d_Wo_become_79 (fun H locs hR hS => ?_)
    refine g_nW hf hR (fun w4 hf hR => ?_)
    refine lv_aload_n hx hb d_Wo_become_82 rfl (lv_at hl 1 rfl) ?_
    have ⟨h5, hf⟩ := gd_e hf
    have ⟨x6, h7, hf⟩ := rr_e hf
    refine g_getR hx hb hts hown hK hR fl_Wo_33 (fun _ => rfl) h5 h7 d_Wo_become_83 ?_
    refine lv_iconst (v := 0) hx hb d_Wo_become_86 (by decide) ?_
    refine lv_aload_n hx hb d_Wo_become_87 rfl (lv_at hl 0 rfl) ?_
    have ⟨h8, hf⟩ := gd_e hf
    have ⟨x9, h10, hf⟩ := rr_e hf
    refine g_getR hx hb hts hown hK hR fl_Wo_33 (fun _ => rfl) h8 h10 d_Wo_become_88 ?_
    refine lv_iconst (v := 0) hx hb d_Wo_become_91 (by decide) ?_
    refine lv_bipush (v := 6) hx hb d_Wo_become_92 (by decide) ?_
    have ⟨h11, hf⟩ := gd_e hf
    have ⟨h12, hf⟩ := gd_e hf
    have ⟨h13, hf⟩ := gd_e hf
    have ⟨h14, hf⟩ := gd_e hf
    refine g_copyI hx hb (hml.trans hl.1.symm) hts hown hK hR hS m_770 m_706 m_705 m_20 h11 h12 (by decide) (by decide) (by decide) h13 h14 (Nat.le_of_ble_eq_true rfl) (Nat.le_of_ble_eq_true rfl) d_Wo_become_94 (fun H locs hR hS => ?_)
    refine g_nW hf hR (fun w15 hf hR => ?_)
    refine lv_aload_n hx hb d_Wo_become_97 rfl (lv_at hl 1 rfl) ?_
    have ⟨h16, hf⟩ := gd_e hf
    have ⟨x17, h18, hf⟩ := rr_e hf
    refine g_getR hx hb hts hown hK hR fl_Wo_36 (fun _ => rfl) h16 h18 d_Wo_become_98 ?_
    refine lv_iconst (v := 0) hx hb d_Wo_become_101 (by decide) ?_
    refine lv_aload_n hx hb d_Wo_become_102 rfl (lv_at hl 0 rfl) ?_
    have ⟨h19, hf⟩ := gd_e hf
    have ⟨x20, h21, hf⟩ := rr_e hf
    refine g_getR hx hb hts hown hK hR fl_Wo_36 (fun _ => rfl) h19 h21 d_Wo_become_103 ?_
    refine lv_iconst (v := 0) hx hb d_Wo_become_106 (by decide) ?_
    refine lv_iconst (v := 4) hx hb d_Wo_become_107 (by decide) ?_
    have ⟨h22, hf⟩ := gd_e hf
    have ⟨h23, hf⟩ := gd_e hf
    have ⟨h24, hf⟩ := gd_e hf
    have ⟨h25, hf⟩ := gd_e hf
    refine g_copyI hx hb (hml.trans hl.1.symm) hts hown hK hR hS m_770 m_706 m_705 m_20 h22 h23 (by decide) (by decide) (by decide) h24 h25 (Nat.le_of_ble_eq_true rfl) (Nat.le_of_ble_eq_true rfl) d_Wo_become_108 (fun H locs hR hS => ?_)
    refine g_nW hf hR (fun w26 hf hR => ?_)
    refine lv_aload_n hx hb d_Wo_become_111 rfl (lv_at hl 0 rfl) ?_
    refine lv_aload_n hx hb d_Wo_become_112 rfl (lv_at hl 1 rfl) ?_
    have ⟨h27, hf⟩ := gd_e hf
    refine g_getI hx hb hts hown hK hR fl_Wo_39 (fun _ => rfl) h27 d_Wo_become_113 ?_
    refine g_nI hf (fun x28 hf => ?_)
    have ⟨h29, hf⟩ := gd_e hf
    refine g_putI hx hb hts hown hK hR hS pf_Wo_39 (fun _ => rfl) rfl rfl h29 d_Wo_become_116 (fun H locs hR hS => ?_)
    refine g_nW hf hR (fun w30 hf hR => ?_)
    refine lv_aload_n hx hb d_Wo_become_119 rfl (lv_at hl 1 rfl) ?_
    have ⟨h31, hf⟩ := gd_e hf
    have ⟨x32, h33, hf⟩ := rr_e hf
    refine g_getR hx hb hts hown hK hR fl_Wo_42 (fun _ => rfl) h31 h33 d_Wo_become_120 ?_
    refine lv_iconst (v := 0) hx hb d_Wo_become_123 (by decide) ?_
    refine lv_aload_n hx hb d_Wo_become_124 rfl (lv_at hl 0 rfl) ?_
    have ⟨h34, hf⟩ := gd_e hf
    have ⟨x35, h36, hf⟩ := rr_e hf
    refine g_getR hx hb hts hown hK hR fl_Wo_42 (fun _ => rfl) h34 h36 d_Wo_become_125 ?_
    refine lv_iconst (v := 0) hx hb d_Wo_become_128 (by decide) ?_
    refine lv_iconst (v := 4) hx hb d_Wo_become_129 (by decide) ?_
    have ⟨h37, hf⟩ := gd_e hf
    have ⟨h38, hf⟩ := gd_e hf
    have ⟨h39, hf⟩ := gd_e hf
    have ⟨h40, hf⟩ := gd_e hf
    refine g_copyI hx hb (hml.trans hl.1.symm) hts hown hK hR hS m_770 m_706 m_705 m_20 h37 h38 (by decide) (by decide) (by decide) h39 h40 (Nat.le_of_ble_eq_true rfl) (Nat.le_of_ble_eq_true rfl) d_Wo_become_130 (fun H locs hR hS => ?_)
    refine g_nW hf hR (fun w41 hf hR => ?_)
    refine lv_aload_n hx hb d_Wo_become_133 rfl (lv_at hl 1 rfl) ?_
    have ⟨h42, hf⟩ := gd_e hf
    have ⟨x43, h44, hf⟩ := rr_e hf
    refine g_getR hx hb hts hown hK hR fl_Wo_45 (fun _ => rfl) h42 h44 d_Wo_become_134 ?_
    refine lv_iconst (v := 0) hx hb d_Wo_become_137 (by decide) ?_
    refine lv_aload_n hx hb d_Wo_become_138 rfl (lv_at hl 0 rfl) ?_
    have ⟨h45, hf⟩ := gd_e hf
    have ⟨x46, h47, hf⟩ := rr_e hf
    refine g_getR hx hb hts hown hK hR fl_Wo_45 (fun _ => rfl) h45 h47 d_Wo_become_139 ?_
    refine lv_iconst (v := 0) hx hb d_Wo_become_142 (by decide) ?_
    refine lv_iconst (v := 4) hx hb d_Wo_become_143 (by decide) ?_
    have ⟨h48, hf⟩ := gd_e hf
    have ⟨h49, hf⟩ := gd_e hf
    have ⟨h50, hf⟩ := gd_e hf
    have ⟨h51, hf⟩ := gd_e hf
    refine g_copyI hx hb (hml.trans hl.1.symm) hts hown hK hR hS m_770 m_706 m_705 m_20 h48 h49 (by decide) (by decide) (by decide) h50 h51 (Nat.le_of_ble_eq_true rfl) (Nat.le_of_ble_eq_true rfl) d_Wo_become_144 (fun H locs hR hS => ?_)
    refine g_nW hf hR (fun w52 hf hR => ?_)
    refine lv_aload_n hx hb d_Wo_become_147 rfl (lv_at hl 0 rfl) ?_
    refine lv_aload_n hx hb d_Wo_become_148 rfl (lv_at hl 1 rfl) ?_
    have ⟨h53, hf⟩ := gd_e hf
    refine g_getI hx hb hts hown hK hR fl_Wo_48 (fun _ => rfl) h53 d_Wo_become_149 ?_
    refine g_nI hf (fun x54 hf => ?_)
    have ⟨h55, hf⟩ := gd_e hf
    refine g_putI hx hb hts hown hK hR hS pf_Wo_48 (fun _ => rfl) rfl rfl h55 d_Wo_become_152 (fun H locs hR hS => ?_)
    refine g_nW hf hR (fun w56 hf hR => ?_)
    refine lv_aload_n hx hb d_Wo_become_155 rfl (lv_at hl 1 rfl) ?_
    have ⟨h57, hf⟩ := gd_e hf
    have ⟨x58, h59, hf⟩ := rr_e hf
    refine g_getR hx hb hts hown hK hR fl_Wo_51 (fun _ => rfl) h57 h59 d_Wo_become_156 ?_
    refine lv_iconst (v := 0) hx hb d_Wo_become_159 (by decide) ?_
    refine lv_aload_n hx hb d_Wo_become_160 rfl (lv_at hl 0 rfl) ?_
    have ⟨h60, hf⟩ := gd_e hf
    have ⟨x61, h62, hf⟩ := rr_e hf
    refine g_getR hx hb hts hown hK hR fl_Wo_51 (fun _ => rfl) h60 h62 d_Wo_become_161 ?_
    refine lv_iconst (v := 0) hx hb d_Wo_become_164 (by decide) ?_
    refine lv_bipush (v := 8) hx hb d_Wo_become_165 (by decide) ?_
    have ⟨h63, hf⟩ := gd_e hf
    have ⟨h64, hf⟩ := gd_e hf
    have ⟨h65, hf⟩ := gd_e hf
    have ⟨h66, hf⟩ := gd_e hf
    refine g_copyI hx hb (hml.trans hl.1.symm) hts hown hK hR hS m_770 m_706 m_705 m_20 h63 h64 (by decide) (by decide) (by decide) h65 h66 (Nat.le_of_ble_eq_true rfl) (Nat.le_of_ble_eq_true rfl) d_Wo_become_167 (fun H locs hR hS => ?_)
    refine g_nW hf hR (fun w67 hf hR => ?_)
    refine lv_aload_n hx hb d_Wo_become_170 rfl (lv_at hl 1 rfl) ?_
    have ⟨h68, hf⟩ := gd_e hf
    have ⟨x69, h70, hf⟩ := rr_e hf
    refine g_getR hx hb hts hown hK hR fl_Wo_54 (fun _ => rfl) h68 h70 d_Wo_become_171 ?_
    refine lv_iconst (v := 0) hx hb d_Wo_become_174 (by decide) ?_
    refine lv_aload_n hx hb d_Wo_become_175 rfl (lv_at hl 0 rfl) ?_
    have ⟨h71, hf⟩ := gd_e hf
    have ⟨x72, h73, hf⟩ := rr_e hf
    refine g_getR hx hb hts hown hK hR fl_Wo_54 (fun _ => rfl) h71 h73 d_Wo_become_176 ?_
    refine lv_iconst (v := 0) hx hb d_Wo_become_179 (by decide) ?_
    refine lv_bipush (v := 8) hx hb d_Wo_become_180 (by decide) ?_
    have ⟨h74, hf⟩ := gd_e hf
    have ⟨h75, hf⟩ := gd_e hf
    have ⟨h76, hf⟩ := gd_e hf
    have ⟨h77, hf⟩ := gd_e hf
    refine g_copyI hx hb (hml.trans hl.1.symm) hts hown hK hR hS m_770 m_706 m_705 m_20 h74 h75 (by decide) (by decide) (by decide) h76 h77 (Nat.le_of_ble_eq_true rfl) (Nat.le_of_ble_eq_true rfl) d_Wo_become_182 (fun H locs hR hS => ?_)
    refine g_nW hf hR (fun w78 hf hR => ?_)
    refine lv_aload_n hx hb d_Wo_become_185 rfl (lv_at hl 0 rfl) ?_
    refine lv_aload_n hx hb d_Wo_become_186 rfl (lv_at hl 1 rfl) ?_
    have ⟨h79, hf⟩ := gd_e hf
    refine g_getI hx hb hts hown hK hR fl_Wo_57 (fun _ => rfl) h79 d_Wo_become_187 ?_
    refine g_nI hf (fun x80 hf => ?_)
    have ⟨h81, hf⟩ := gd_e hf
    refine g_putI hx hb hts hown hK hR hS pf_Wo_57 (fun _ => rfl) rfl rfl h81 d_Wo_become_190 (fun H locs hR hS => ?_)
    refine g_nW hf hR (fun w82 hf hR => ?_)
    refine lv_aload_n hx hb d_Wo_become_193 rfl (lv_at hl 0 rfl) ?_
    refine lv_aload_n hx hb d_Wo_become_194 rfl (lv_at hl 1 rfl) ?_
    have ⟨h83, hf⟩ := gd_e hf
    have ⟨x84, h85, hf⟩ := rr_e hf
    refine g_getR hx hb hts hown hK hR fl_Wo_60 (fun _ => rfl) h83 h85 d_Wo_become_195 ?_
    have ⟨h86, hf⟩ := gd_e hf
    refine g_putR hx hb hts hown hK hR hS pf_Wo_60 (fun _ => rfl) (fun _ => rfl) (fun _ => rfl) h86 d_Wo_become_198 (fun H locs hR hS => ?_)
    refine g_nW hf hR (fun w87 hf hR => ?_)
    exact g_vret hx hb hr hlocks hR hS hf d_Wo_become_201
  have hf := cd_f hc hf
  refine lv_aload_n hx hb d_Wo_become_7 rfl (lv_at hl 0 rfl) ?_
  have ⟨h88, hf⟩ := gd_e hf
  have ⟨x89, h90, hf⟩ := rr_e hf
  refine g_getR hx hb hts hown hK hR fl_Wo_11 (fun _ => rfl) h88 h90 d_Wo_become_8 ?_
  refine lv_iload_n hx hb d_Wo_become_11 rfl (lv_at hl 2 rfl) ?_
  refine lv_aload_n hx hb d_Wo_become_12 rfl (lv_at hl 1 rfl) ?_
  have ⟨h91, hf⟩ := gd_e hf
  have ⟨x92, h93, hf⟩ := rr_e hf
  refine g_getR hx hb hts hown hK hR fl_Wo_11 (fun _ => rfl) h91 h93 d_Wo_become_13 ?_
  refine lv_iload_n hx hb d_Wo_become_16 rfl (lv_at hl 2 rfl) ?_
  have ⟨h94, hf⟩ := gd_e hf
  have ⟨h95, hf⟩ := gd_e hf
  rcases nr_e hf with ⟨h97, hf⟩ | ⟨x96, h97, hf⟩
  · refine g_aaldN hx hb hK hR (by decide) rfl (fun _ _ => rfl) h94 h95 h97 d_Wo_become_17 ?_
    have ⟨h98, hf⟩ := gd_e hf
    have ⟨h99, hf⟩ := gd_e hf
    refine g_aastN hx hb hK hR hS (by decide) rfl h98 h99 d_Wo_become_18 (fun H locs hR hS => ?_)
    refine g_nW hf hR (fun w100 hf hR => ?_)
    refine lv_aload_n hx hb d_Wo_become_19 rfl (lv_at hl 0 rfl) ?_
    have ⟨h101, hf⟩ := gd_e hf
    have ⟨x102, h103, hf⟩ := rr_e hf
    refine g_getR hx hb hts hown hK hR fl_Wo_29 (fun _ => rfl) h101 h103 d_Wo_become_20 ?_
    refine lv_iload_n hx hb d_Wo_become_23 rfl (lv_at hl 2 rfl) ?_
    refine lv_aload_n hx hb d_Wo_become_24 rfl (lv_at hl 1 rfl) ?_
    have ⟨h104, hf⟩ := gd_e hf
    have ⟨x105, h106, hf⟩ := rr_e hf
    refine g_getR hx hb hts hown hK hR fl_Wo_29 (fun _ => rfl) h104 h106 d_Wo_become_25 ?_
    refine lv_iload_n hx hb d_Wo_become_28 rfl (lv_at hl 2 rfl) ?_
    have ⟨h107, hf⟩ := gd_e hf
    have ⟨h108, hf⟩ := gd_e hf
    refine g_iald hx hb hK hR h107 h108 d_Wo_become_29 ?_
    refine g_nI hf (fun x109 hf => ?_)
    have ⟨h110, hf⟩ := gd_e hf
    have ⟨h111, hf⟩ := gd_e hf
    refine g_iast hx hb hK hR hS h110 h111 d_Wo_become_30 (fun H locs hR hS => ?_)
    refine g_nW hf hR (fun w112 hf hR => ?_)
    refine lv_aload_n hx hb d_Wo_become_31 rfl (lv_at hl 1 rfl) ?_
    have ⟨h113, hf⟩ := gd_e hf
    have ⟨x114, h115, hf⟩ := rr_e hf
    refine g_getR hx hb hts hown hK hR fl_Wo_23 (fun _ => rfl) h113 h115 d_Wo_become_32 ?_
    refine lv_iload_n hx hb d_Wo_become_35 rfl (lv_at hl 2 rfl) ?_
    have ⟨h116, hf⟩ := gd_e hf
    have ⟨h117, hf⟩ := gd_e hf
    have ⟨x118, h119, hf⟩ := rr_e hf
    refine g_aald hx hb hK hR (by decide) rfl (fun _ _ => rfl) h116 h117 h119 d_Wo_become_36 ?_
    refine lv_iconst (v := 0) hx hb d_Wo_become_37 (by decide) ?_
    refine lv_aload_n hx hb d_Wo_become_38 rfl (lv_at hl 0 rfl) ?_
    have ⟨h120, hf⟩ := gd_e hf
    have ⟨x121, h122, hf⟩ := rr_e hf
    refine g_getR hx hb hts hown hK hR fl_Wo_23 (fun _ => rfl) h120 h122 d_Wo_become_39 ?_
    refine lv_iload_n hx hb d_Wo_become_42 rfl (lv_at hl 2 rfl) ?_
    have ⟨h123, hf⟩ := gd_e hf
    have ⟨h124, hf⟩ := gd_e hf
    have ⟨x125, h126, hf⟩ := rr_e hf
    refine g_aald hx hb hK hR (by decide) rfl (fun _ _ => rfl) h123 h124 h126 d_Wo_become_43 ?_
    refine lv_iconst (v := 0) hx hb d_Wo_become_44 (by decide) ?_
    refine lv_bipush (v := 6) hx hb d_Wo_become_45 (by decide) ?_
    have ⟨h127, hf⟩ := gd_e hf
    have ⟨h128, hf⟩ := gd_e hf
    have ⟨h129, hf⟩ := gd_e hf
    have ⟨h130, hf⟩ := gd_e hf
    refine g_copyI hx hb (hml.trans hl.1.symm) hts hown hK hR hS m_770 m_706 m_705 m_20 h127 h128 (by decide) (by decide) (by decide) h129 h130 (Nat.le_of_ble_eq_true rfl) (Nat.le_of_ble_eq_true rfl) d_Wo_become_47 (fun H locs hR hS => ?_)
    refine g_nW hf hR (fun w131 hf hR => ?_)
    refine lv_aload_n hx hb d_Wo_become_50 rfl (lv_at hl 1 rfl) ?_
    have ⟨h132, hf⟩ := gd_e hf
    have ⟨x133, h134, hf⟩ := rr_e hf
    refine g_getR hx hb hts hown hK hR fl_Wo_26 (fun _ => rfl) h132 h134 d_Wo_become_51 ?_
    refine lv_iload_n hx hb d_Wo_become_54 rfl (lv_at hl 2 rfl) ?_
    have ⟨h135, hf⟩ := gd_e hf
    have ⟨h136, hf⟩ := gd_e hf
    have ⟨x137, h138, hf⟩ := rr_e hf
    refine g_aald hx hb hK hR (by decide) rfl (fun _ _ => rfl) h135 h136 h138 d_Wo_become_55 ?_
    refine lv_iconst (v := 0) hx hb d_Wo_become_56 (by decide) ?_
    refine lv_aload_n hx hb d_Wo_become_57 rfl (lv_at hl 0 rfl) ?_
    have ⟨h139, hf⟩ := gd_e hf
    have ⟨x140, h141, hf⟩ := rr_e hf
    refine g_getR hx hb hts hown hK hR fl_Wo_26 (fun _ => rfl) h139 h141 d_Wo_become_58 ?_
    refine lv_iload_n hx hb d_Wo_become_61 rfl (lv_at hl 2 rfl) ?_
    have ⟨h142, hf⟩ := gd_e hf
    have ⟨h143, hf⟩ := gd_e hf
    have ⟨x144, h145, hf⟩ := rr_e hf
    refine g_aald hx hb hK hR (by decide) rfl (fun _ _ => rfl) h142 h143 h145 d_Wo_become_62 ?_
    refine lv_iconst (v := 0) hx hb d_Wo_become_63 (by decide) ?_
    refine lv_iconst (v := 4) hx hb d_Wo_become_64 (by decide) ?_
    have ⟨h146, hf⟩ := gd_e hf
    have ⟨h147, hf⟩ := gd_e hf
    have ⟨h148, hf⟩ := gd_e hf
    have ⟨h149, hf⟩ := gd_e hf
    refine g_copyI hx hb (hml.trans hl.1.symm) hts hown hK hR hS m_770 m_706 m_705 m_20 h146 h147 (by decide) (by decide) (by decide) h148 h149 (Nat.le_of_ble_eq_true rfl) (Nat.le_of_ble_eq_true rfl) d_Wo_become_65 (fun H locs hR hS => ?_)
    refine g_nW hf hR (fun w150 hf hR => ?_)
    refine g_iinc (lv' := fun x151 => [(2, .int x151), (0, .ref (B + a0)), (1, .ref (B + a1))]) hf hx hb d_Wo_become_68 hl (k := 2) rfl (by decide) (by decide) (fun _ => rfl) (fun x151 ls hf hl => ?_)
    refine lv_goto (tgt := 2) hx hb d_Wo_become_71 (by decide) ?_
    exact ih2 a0 a1 x151 w150 _ _ _ hf (lv_sub hl [1, 2, 0] rfl) hR hS
  refine g_aald hx hb hK hR (by decide) rfl (fun _ _ => rfl) h94 h95 h97 d_Wo_become_17 ?_
  have ⟨h152, hf⟩ := gd_e hf
  have ⟨h153, hf⟩ := gd_e hf
  have ⟨h154, hf⟩ := gd_e hf
  refine g_aast hx hb hK hR hS (by decide) rfl (g_anyP hK hR h154) h152 h153 d_Wo_become_18 (fun H locs hR hS => ?_)
  refine g_nW hf hR (fun w155 hf hR => ?_)
  refine lv_aload_n hx hb d_Wo_become_19 rfl (lv_at hl 0 rfl) ?_
  have ⟨h156, hf⟩ := gd_e hf
  have ⟨x157, h158, hf⟩ := rr_e hf
  refine g_getR hx hb hts hown hK hR fl_Wo_29 (fun _ => rfl) h156 h158 d_Wo_become_20 ?_
  refine lv_iload_n hx hb d_Wo_become_23 rfl (lv_at hl 2 rfl) ?_
  refine lv_aload_n hx hb d_Wo_become_24 rfl (lv_at hl 1 rfl) ?_
  have ⟨h159, hf⟩ := gd_e hf
  have ⟨x160, h161, hf⟩ := rr_e hf
  refine g_getR hx hb hts hown hK hR fl_Wo_29 (fun _ => rfl) h159 h161 d_Wo_become_25 ?_
  refine lv_iload_n hx hb d_Wo_become_28 rfl (lv_at hl 2 rfl) ?_
  have ⟨h162, hf⟩ := gd_e hf
  have ⟨h163, hf⟩ := gd_e hf
  refine g_iald hx hb hK hR h162 h163 d_Wo_become_29 ?_
  refine g_nI hf (fun x164 hf => ?_)
  have ⟨h165, hf⟩ := gd_e hf
  have ⟨h166, hf⟩ := gd_e hf
  refine g_iast hx hb hK hR hS h165 h166 d_Wo_become_30 (fun H locs hR hS => ?_)
  refine g_nW hf hR (fun w167 hf hR => ?_)
  refine lv_aload_n hx hb d_Wo_become_31 rfl (lv_at hl 1 rfl) ?_
  have ⟨h168, hf⟩ := gd_e hf
  have ⟨x169, h170, hf⟩ := rr_e hf
  refine g_getR hx hb hts hown hK hR fl_Wo_23 (fun _ => rfl) h168 h170 d_Wo_become_32 ?_
  refine lv_iload_n hx hb d_Wo_become_35 rfl (lv_at hl 2 rfl) ?_
  have ⟨h171, hf⟩ := gd_e hf
  have ⟨h172, hf⟩ := gd_e hf
  have ⟨x173, h174, hf⟩ := rr_e hf
  refine g_aald hx hb hK hR (by decide) rfl (fun _ _ => rfl) h171 h172 h174 d_Wo_become_36 ?_
  refine lv_iconst (v := 0) hx hb d_Wo_become_37 (by decide) ?_
  refine lv_aload_n hx hb d_Wo_become_38 rfl (lv_at hl 0 rfl) ?_
  have ⟨h175, hf⟩ := gd_e hf
  have ⟨x176, h177, hf⟩ := rr_e hf
  refine g_getR hx hb hts hown hK hR fl_Wo_23 (fun _ => rfl) h175 h177 d_Wo_become_39 ?_
  refine lv_iload_n hx hb d_Wo_become_42 rfl (lv_at hl 2 rfl) ?_
  have ⟨h178, hf⟩ := gd_e hf
  have ⟨h179, hf⟩ := gd_e hf
  have ⟨x180, h181, hf⟩ := rr_e hf
  refine g_aald hx hb hK hR (by decide) rfl (fun _ _ => rfl) h178 h179 h181 d_Wo_become_43 ?_
  refine lv_iconst (v := 0) hx hb d_Wo_become_44 (by decide) ?_
  refine lv_bipush (v := 6) hx hb d_Wo_become_45 (by decide) ?_
  have ⟨h182, hf⟩ := gd_e hf
  have ⟨h183, hf⟩ := gd_e hf
  have ⟨h184, hf⟩ := gd_e hf
  have ⟨h185, hf⟩ := gd_e hf
  refine g_copyI hx hb (hml.trans hl.1.symm) hts hown hK hR hS m_770 m_706 m_705 m_20 h182 h183 (by decide) (by decide) (by decide) h184 h185 (Nat.le_of_ble_eq_true rfl) (Nat.le_of_ble_eq_true rfl) d_Wo_become_47 (fun H locs hR hS => ?_)
  refine g_nW hf hR (fun w186 hf hR => ?_)
  refine lv_aload_n hx hb d_Wo_become_50 rfl (lv_at hl 1 rfl) ?_
  have ⟨h187, hf⟩ := gd_e hf
  have ⟨x188, h189, hf⟩ := rr_e hf
  refine g_getR hx hb hts hown hK hR fl_Wo_26 (fun _ => rfl) h187 h189 d_Wo_become_51 ?_
  refine lv_iload_n hx hb d_Wo_become_54 rfl (lv_at hl 2 rfl) ?_
  have ⟨h190, hf⟩ := gd_e hf
  have ⟨h191, hf⟩ := gd_e hf
  have ⟨x192, h193, hf⟩ := rr_e hf
  refine g_aald hx hb hK hR (by decide) rfl (fun _ _ => rfl) h190 h191 h193 d_Wo_become_55 ?_
  refine lv_iconst (v := 0) hx hb d_Wo_become_56 (by decide) ?_
  refine lv_aload_n hx hb d_Wo_become_57 rfl (lv_at hl 0 rfl) ?_
  have ⟨h194, hf⟩ := gd_e hf
  have ⟨x195, h196, hf⟩ := rr_e hf
  refine g_getR hx hb hts hown hK hR fl_Wo_26 (fun _ => rfl) h194 h196 d_Wo_become_58 ?_
  refine lv_iload_n hx hb d_Wo_become_61 rfl (lv_at hl 2 rfl) ?_
  have ⟨h197, hf⟩ := gd_e hf
  have ⟨h198, hf⟩ := gd_e hf
  have ⟨x199, h200, hf⟩ := rr_e hf
  refine g_aald hx hb hK hR (by decide) rfl (fun _ _ => rfl) h197 h198 h200 d_Wo_become_62 ?_
  refine lv_iconst (v := 0) hx hb d_Wo_become_63 (by decide) ?_
  refine lv_iconst (v := 4) hx hb d_Wo_become_64 (by decide) ?_
  have ⟨h201, hf⟩ := gd_e hf
  have ⟨h202, hf⟩ := gd_e hf
  have ⟨h203, hf⟩ := gd_e hf
  have ⟨h204, hf⟩ := gd_e hf
  refine g_copyI hx hb (hml.trans hl.1.symm) hts hown hK hR hS m_770 m_706 m_705 m_20 h201 h202 (by decide) (by decide) (by decide) h203 h204 (Nat.le_of_ble_eq_true rfl) (Nat.le_of_ble_eq_true rfl) d_Wo_become_65 (fun H locs hR hS => ?_)
  refine g_nW hf hR (fun w205 hf hR => ?_)
  refine g_iinc (lv' := fun x206 => [(2, .int x206), (0, .ref (B + a0)), (1, .ref (B + a1))]) hf hx hb d_Wo_become_68 hl (k := 2) rfl (by decide) (by decide) (fun _ => rfl) (fun x206 ls hf hl => ?_)
  refine lv_goto (tgt := 2) hx hb d_Wo_become_71 (by decide) ?_
  exact ih2 a0 a1 x206 w205 _ _ _ hf (lv_sub hl [1, 2, 0] rfl) hR hS
theorem c_Wo_become_l2 {r : Unit} {wz : gW} (C : gC p s m args meth c "RidCoppers$World" b_Wo_become 3 none D cA oc B) (a0 : Nat) (a1 : Nat) (a2 : Int32) (w : gW) {ls : Array Slot} {H : Heap} {locs : List Loc} (hl : lv_has ls 3 [(0, .ref (B + a0)), (1, .ref (B + a1)), (2, .int a2)]) (hf : f_Wo_become_l2 N a0 a1 a2 w = some (r, wz)) (hR : gRep D cA B w H) (hS : va_S (gA B) s.heap H locs) : W p l e ({ frames := 1, cells := 0, slots := 0, locals := 60 } : Room) s m args below meth c H locs 0 0 (MQ below (gQv D cA B r wz) args s 0 0 (gA B)) (F0 m 2 ls []) := by
  unfold f_Wo_become_l2 at hf
  suffices hh : ∀ n : Nat, ∀ (a0 : Nat) (a1 : Nat) (a2 : Int32) (w : gW) (ls : Array Slot) (H : Heap) (locs : List Loc), itr (fun rec (q : Nat × Nat × Int32 × gW) => f_Wo_become_b2 N rec q.1 q.2.1 q.2.2.1 q.2.2.2) n (a0, a1, a2, w) = some (r, wz) → lv_has ls 3 [(0, .ref (B + a0)), (1, .ref (B + a1)), (2, .int a2)] → gRep D cA B w H → va_S (gA B) s.heap H locs → W p l e ({ frames := 1, cells := 0, slots := 0, locals := 60 } : Room) s m args below meth c H locs 0 0 (MQ below (gQv D cA B r wz) args s 0 0 (gA B)) (F0 m 2 ls []) from hh N a0 a1 a2 w ls H locs hf hl hR hS
  intro n
  induction n with
  | zero => intro a0 a1 a2 w ls H locs hf; cases hf
  | succ n ihn =>
    intro a0 a1 a2 w ls H locs hf hl hR hS
    exact c_Wo_become_b2 (N := N) ihn C a0 a1 a2 w hl ((itr_s _ _ _).symm.trans hf) hR hS
set_option maxRecDepth 20000 in
theorem c_Wo_become_b0 {r : Unit} {wz : gW} (C : gC p s m args meth c "RidCoppers$World" b_Wo_become 3 none D cA oc B) (a0 : Nat) (a1 : Nat) (w : gW) {ls : Array Slot} {H : Heap} {locs : List Loc} (hl : lv_has ls 3 [(0, .ref (B + a0)), (1, .ref (B + a1))]) (hf : f_Wo_become_b0 N a0 a1 w = some (r, wz)) (hR : gRep D cA B w H) (hS : va_S (gA B) s.heap H locs) : W p l e ({ frames := 1, cells := 0, slots := 0, locals := 60 } : Room) s m args below meth c H locs 0 0 (MQ below (gQv D cA B r wz) args s 0 0 (gA B)) (F0 m 0 ls []) := by
  obtain ⟨hx, hb, hml, hown, hts, hr, hlocks, hK, hBs⟩ := id C
  unfold f_Wo_become_b0 at hf
  refine lv_iconst (v := 0) hx hb d_Wo_become_0 (by decide) ?_
  refine lv_istore_n (lv' := [(2, .int 0), (0, .ref (B + a0)), (1, .ref (B + a1))]) hx hb d_Wo_become_1 rfl hl (by decide) rfl (fun ls hl => ?_)
  exact c_Wo_become_l2 C a0 a1 0 w (lv_sub hl [1, 2, 0] rfl) hf hR hS
theorem c_Wo_become (l : Launch) (D : va_G) (cA : Nat → ClassId) (oc : gO) (B N : Nat) (a0 : Nat) (a1 : Nat) (w : gW) {wz : gW} {r : Unit} (hf : f_Wo_become N a0 a1 w = some (r, wz)) : Met l y_Wo_become (Cond.code y_Wo_become b_Wo_become 3 none :: lw_good) ({ frames := 1, cells := 0, slots := 0, locals := 60 } : Room) (gPre D cA oc B [.ref (B + a0), .ref (B + a1)] w) (gQv D cA B r wz) 0 0 (gA B) := by
  refine Met.ofW (cc := b_Wo_become) (maxL := 3) (ret := none) (by decide +kernel) rfl ?_
  intro p e s m args below meth c s₁ Bd hml hv
  obtain ⟨hargs, C, hR⟩ := gC.enter (l := l) rfl Bd hml hv
  subst hargs
  have hl := lv_entry ([.ref (B + a0), .ref (B + a1)]) (n := 3) (Nat.le_of_ble_eq_true rfl)
  rw [lg_entry_eq]
  generalize (lg_sl ([.ref (B + a0), .ref (B + a1)]) ++ List.replicate (3 - (lg_sl ([.ref (B + a0), .ref (B + a1)])).length) Slot.unset).toArray = ls at hl ⊢
  have hl : lv_has ls 3 [(0, .ref (B + a0)), (1, .ref (B + a1))] := hl
  exact c_Wo_become_b0 C a0 a1 w (lv_sub hl [0, 1] rfl) hf hR va_S.rf
theorem d_Wo_weight_0 : decode b_Wo_weight 0 = .ok (.iconst 0, 1) := by decide +kernel
theorem d_Wo_weight_1 : decode b_Wo_weight 1 = .ok (.istore_n 2, 1) := by decide +kernel
theorem d_Wo_weight_2 : decode b_Wo_weight 2 = .ok (.iconst 0, 1) := by decide +kernel
theorem d_Wo_weight_3 : decode b_Wo_weight 3 = .ok (.istore_n 3, 1) := by decide +kernel
theorem d_Wo_weight_4 : decode b_Wo_weight 4 = .ok (.iload_n 3, 1) := by decide +kernel
theorem d_Wo_weight_5 : decode b_Wo_weight 5 = .ok (.bipush 6, 2) := by decide +kernel
theorem d_Wo_weight_7 : decode b_Wo_weight 7 = .ok (.if_icmp .ge 30, 3) := by decide +kernel
theorem d_Wo_weight_10 : decode b_Wo_weight 10 = .ok (.iload_n 2, 1) := by decide +kernel
theorem d_Wo_weight_11 : decode b_Wo_weight 11 = .ok (.aload_n 0, 1) := by decide +kernel
theorem d_Wo_weight_12 : decode b_Wo_weight 12 = .ok (.getfield 23, 3) := by decide +kernel
theorem d_Wo_weight_15 : decode b_Wo_weight 15 = .ok (.iload_n 1, 1) := by decide +kernel
theorem d_Wo_weight_16 : decode b_Wo_weight 16 = .ok (.aaload, 1) := by decide +kernel
theorem d_Wo_weight_17 : decode b_Wo_weight 17 = .ok (.iload_n 3, 1) := by decide +kernel
theorem d_Wo_weight_18 : decode b_Wo_weight 18 = .ok (.iaload, 1) := by decide +kernel
theorem d_Wo_weight_19 : decode b_Wo_weight 19 = .ok (.aload_n 0, 1) := by decide +kernel
theorem d_Wo_weight_20 : decode b_Wo_weight 20 = .ok (.getfield 60, 3) := by decide +kernel
theorem d_Wo_weight_23 : decode b_Wo_weight 23 = .ok (.getfield 70, 3) := by decide +kernel
theorem d_Wo_weight_26 : decode b_Wo_weight 26 = .ok (.iload_n 3, 1) := by decide +kernel
theorem d_Wo_weight_27 : decode b_Wo_weight 27 = .ok (.iaload, 1) := by decide +kernel
theorem d_Wo_weight_28 : decode b_Wo_weight 28 = .ok (.imul, 1) := by decide +kernel
theorem d_Wo_weight_29 : decode b_Wo_weight 29 = .ok (.iadd, 1) := by decide +kernel
theorem d_Wo_weight_30 : decode b_Wo_weight 30 = .ok (.istore_n 2, 1) := by decide +kernel
theorem d_Wo_weight_31 : decode b_Wo_weight 31 = .ok (.iinc 3 1, 3) := by decide +kernel
theorem d_Wo_weight_34 : decode b_Wo_weight 34 = .ok (.goto (-30), 3) := by decide +kernel
theorem d_Wo_weight_37 : decode b_Wo_weight 37 = .ok (.iload_n 2, 1) := by decide +kernel
theorem d_Wo_weight_38 : decode b_Wo_weight 38 = .ok (.ireturn, 1) := by decide +kernel
set_option maxRecDepth 20000 in
theorem c_Wo_weight_b4 {r : Int32} {wz : gW} {rec4 : Nat × Int32 × Int32 × Int32 × gW → Option (Int32 × gW)} (ih4 : ∀ (a0 : Nat) (a1 : Int32) (a2 : Int32) (a3 : Int32) (w : gW) (ls : Array Slot) (H : Heap) (locs : List Loc), rec4 (a0, a1, a2, a3, w) = some (r, wz) → lv_has ls 4 [(0, .ref (B + a0)), (1, .int a1), (2, .int a2), (3, .int a3)] → gRep D cA B w H → va_S (gA B) s.heap H locs → W p l e ({ frames := 1, cells := 0, slots := 0, locals := 40 } : Room) s m args below meth c H locs 0 0 (MQ below (gQi D cA B r wz) args s 0 0 (gA B)) (F0 m 4 ls [])) (C : gC p s m args meth c "RidCoppers$World" b_Wo_weight 4 (some .int) D cA oc B) (a0 : Nat) (a1 : Int32) (a2 : Int32) (a3 : Int32) (w : gW) {ls : Array Slot} {H : Heap} {locs : List Loc} (hl : lv_has ls 4 [(0, .ref (B + a0)), (1, .int a1), (2, .int a2), (3, .int a3)]) (hf : f_Wo_weight_b4 N rec4 a0 a1 a2 a3 w = some (r, wz)) (hR : gRep D cA B w H) (hS : va_S (gA B) s.heap H locs) : W p l e ({ frames := 1, cells := 0, slots := 0, locals := 40 } : Room) s m args below meth c H locs 0 0 (MQ below (gQi D cA B r wz) args s 0 0 (gA B)) (F0 m 4 ls []) := by
  obtain ⟨hx, hb, hml, hown, hts, hr, hlocks, hK, hBs⟩ := id C
  unfold f_Wo_weight_b4 at hf
  refine lv_iload_n hx hb d_Wo_weight_4 rfl (lv_at hl 3 rfl) ?_
  refine lv_bipush (v := 6) hx hb d_Wo_weight_5 (by decide) ?_
  refine lv_icmp_ge (tgt := 37) hx hb d_Wo_weight_7 (by decide) (fun hc => ?_) (fun hc => ?_)
  · have hf := cd_t hc hf
    refine lv_iload_n hx hb d_Wo_weight_37 rfl (lv_at hl 2 rfl) ?_
    exact g_iret hx hb hr hlocks hR hS hf rfl d_Wo_weight_38
  have hf := cd_f hc hf
  refine lv_iload_n hx hb d_Wo_weight_10 rfl (lv_at hl 2 rfl) ?_
  refine lv_aload_n hx hb d_Wo_weight_11 rfl (lv_at hl 0 rfl) ?_
  have ⟨h1, hf⟩ := gd_e hf
  have ⟨x2, h3, hf⟩ := rr_e hf
  refine g_getR hx hb hts hown hK hR fl_Wo_23 (fun _ => rfl) h1 h3 d_Wo_weight_12 ?_
  refine lv_iload_n hx hb d_Wo_weight_15 rfl (lv_at hl 1 rfl) ?_
  have ⟨h4, hf⟩ := gd_e hf
  have ⟨h5, hf⟩ := gd_e hf
  have ⟨x6, h7, hf⟩ := rr_e hf
  refine g_aald hx hb hK hR (by decide) rfl (fun _ _ => rfl) h4 h5 h7 d_Wo_weight_16 ?_
  refine lv_iload_n hx hb d_Wo_weight_17 rfl (lv_at hl 3 rfl) ?_
  have ⟨h8, hf⟩ := gd_e hf
  have ⟨h9, hf⟩ := gd_e hf
  refine g_iald hx hb hK hR h8 h9 d_Wo_weight_18 ?_
  refine g_nI hf (fun x10 hf => ?_)
  refine lv_aload_n hx hb d_Wo_weight_19 rfl (lv_at hl 0 rfl) ?_
  have ⟨x11, h12, hf⟩ := rr_e hf
  refine g_getR hx hb hts hown hK hR fl_Wo_60 (fun _ => rfl) h1 h12 d_Wo_weight_20 ?_
  have ⟨h13, hf⟩ := gd_e hf
  have ⟨x14, h15, hf⟩ := rr_e hf
  refine g_getR hx hb hts hown hK hR fl_Wo_70 (fun _ => rfl) h13 h15 d_Wo_weight_23 ?_
  refine lv_iload_n hx hb d_Wo_weight_26 rfl (lv_at hl 3 rfl) ?_
  have ⟨h16, hf⟩ := gd_e hf
  have ⟨h17, hf⟩ := gd_e hf
  refine g_iald hx hb hK hR h16 h17 d_Wo_weight_27 ?_
  refine g_nI hf (fun x18 hf => ?_)
  refine lv_imul hx hb d_Wo_weight_28 ?_
  refine g_nI hf (fun x19 hf => ?_)
  refine lv_iadd hx hb d_Wo_weight_29 ?_
  refine g_nI hf (fun x20 hf => ?_)
  refine lv_istore_n (lv' := [(2, .int x20), (0, .ref (B + a0)), (1, .int a1), (3, .int a3)]) hx hb d_Wo_weight_30 rfl hl (by decide) rfl (fun ls hl => ?_)
  refine g_iinc (lv' := fun x21 => [(3, .int x21), (2, .int x20), (0, .ref (B + a0)), (1, .int a1)]) hf hx hb d_Wo_weight_31 hl (k := 3) rfl (by decide) (by decide) (fun _ => rfl) (fun x21 ls hf hl => ?_)
  refine lv_goto (tgt := 4) hx hb d_Wo_weight_34 (by decide) ?_
  exact ih4 a0 a1 x20 x21 w _ _ _ hf (lv_sub hl [2, 3, 1, 0] rfl) hR hS
theorem c_Wo_weight_l4 {r : Int32} {wz : gW} (C : gC p s m args meth c "RidCoppers$World" b_Wo_weight 4 (some .int) D cA oc B) (a0 : Nat) (a1 : Int32) (a2 : Int32) (a3 : Int32) (w : gW) {ls : Array Slot} {H : Heap} {locs : List Loc} (hl : lv_has ls 4 [(0, .ref (B + a0)), (1, .int a1), (2, .int a2), (3, .int a3)]) (hf : f_Wo_weight_l4 N a0 a1 a2 a3 w = some (r, wz)) (hR : gRep D cA B w H) (hS : va_S (gA B) s.heap H locs) : W p l e ({ frames := 1, cells := 0, slots := 0, locals := 40 } : Room) s m args below meth c H locs 0 0 (MQ below (gQi D cA B r wz) args s 0 0 (gA B)) (F0 m 4 ls []) := by
  unfold f_Wo_weight_l4 at hf
  suffices hh : ∀ n : Nat, ∀ (a0 : Nat) (a1 : Int32) (a2 : Int32) (a3 : Int32) (w : gW) (ls : Array Slot) (H : Heap) (locs : List Loc), itr (fun rec (q : Nat × Int32 × Int32 × Int32 × gW) => f_Wo_weight_b4 N rec q.1 q.2.1 q.2.2.1 q.2.2.2.1 q.2.2.2.2) n (a0, a1, a2, a3, w) = some (r, wz) → lv_has ls 4 [(0, .ref (B + a0)), (1, .int a1), (2, .int a2), (3, .int a3)] → gRep D cA B w H → va_S (gA B) s.heap H locs → W p l e ({ frames := 1, cells := 0, slots := 0, locals := 40 } : Room) s m args below meth c H locs 0 0 (MQ below (gQi D cA B r wz) args s 0 0 (gA B)) (F0 m 4 ls []) from hh N a0 a1 a2 a3 w ls H locs hf hl hR hS
  intro n
  induction n with
  | zero => intro a0 a1 a2 a3 w ls H locs hf; cases hf
  | succ n ihn =>
    intro a0 a1 a2 a3 w ls H locs hf hl hR hS
    exact c_Wo_weight_b4 (N := N) ihn C a0 a1 a2 a3 w hl ((itr_s _ _ _).symm.trans hf) hR hS
set_option maxRecDepth 20000 in
theorem c_Wo_weight_b0 {r : Int32} {wz : gW} (C : gC p s m args meth c "RidCoppers$World" b_Wo_weight 4 (some .int) D cA oc B) (a0 : Nat) (a1 : Int32) (w : gW) {ls : Array Slot} {H : Heap} {locs : List Loc} (hl : lv_has ls 4 [(0, .ref (B + a0)), (1, .int a1)]) (hf : f_Wo_weight_b0 N a0 a1 w = some (r, wz)) (hR : gRep D cA B w H) (hS : va_S (gA B) s.heap H locs) : W p l e ({ frames := 1, cells := 0, slots := 0, locals := 40 } : Room) s m args below meth c H locs 0 0 (MQ below (gQi D cA B r wz) args s 0 0 (gA B)) (F0 m 0 ls []) := by
  obtain ⟨hx, hb, hml, hown, hts, hr, hlocks, hK, hBs⟩ := id C
  unfold f_Wo_weight_b0 at hf
  refine lv_iconst (v := 0) hx hb d_Wo_weight_0 (by decide) ?_
  refine lv_istore_n (lv' := [(2, .int 0), (0, .ref (B + a0)), (1, .int a1)]) hx hb d_Wo_weight_1 rfl hl (by decide) rfl (fun ls hl => ?_)
  refine lv_iconst (v := 0) hx hb d_Wo_weight_2 (by decide) ?_
  refine lv_istore_n (lv' := [(3, .int 0), (2, .int 0), (0, .ref (B + a0)), (1, .int a1)]) hx hb d_Wo_weight_3 rfl hl (by decide) rfl (fun ls hl => ?_)
  exact c_Wo_weight_l4 C a0 a1 0 0 w (lv_sub hl [2, 3, 1, 0] rfl) hf hR hS
theorem c_Wo_weight (l : Launch) (D : va_G) (cA : Nat → ClassId) (oc : gO) (B N : Nat) (a0 : Nat) (a1 : Int32) (w : gW) {wz : gW} {r : Int32} (hf : f_Wo_weight N a0 a1 w = some (r, wz)) : Met l y_Wo_weight (Cond.code y_Wo_weight b_Wo_weight 4 (some .int) :: lw_good) ({ frames := 1, cells := 0, slots := 0, locals := 40 } : Room) (gPre D cA oc B [.ref (B + a0), .int a1] w) (gQi D cA B r wz) 0 0 (gA B) := by
  refine Met.ofW (cc := b_Wo_weight) (maxL := 4) (ret := (some .int)) (by decide +kernel) rfl ?_
  intro p e s m args below meth c s₁ Bd hml hv
  obtain ⟨hargs, C, hR⟩ := gC.enter (l := l) rfl Bd hml hv
  subst hargs
  have hl := lv_entry ([.ref (B + a0), .int a1]) (n := 4) (Nat.le_of_ble_eq_true rfl)
  rw [lg_entry_eq]
  generalize (lg_sl ([.ref (B + a0), .int a1]) ++ List.replicate (4 - (lg_sl ([.ref (B + a0), .int a1])).length) Slot.unset).toArray = ls at hl ⊢
  have hl : lv_has ls 4 [(0, .ref (B + a0)), (1, .int a1)] := hl
  exact c_Wo_weight_b0 C a0 a1 w (lv_sub hl [0, 1] rfl) hf hR va_S.rf
theorem d_Wo_worth_0 : decode b_Wo_worth 0 = .ok (.iconst 0, 1) := by decide +kernel
theorem d_Wo_worth_1 : decode b_Wo_worth 1 = .ok (.istore_n 2, 1) := by decide +kernel
theorem d_Wo_worth_2 : decode b_Wo_worth 2 = .ok (.iconst 0, 1) := by decide +kernel
theorem d_Wo_worth_3 : decode b_Wo_worth 3 = .ok (.istore_n 3, 1) := by decide +kernel
theorem d_Wo_worth_4 : decode b_Wo_worth 4 = .ok (.iload_n 3, 1) := by decide +kernel
theorem d_Wo_worth_5 : decode b_Wo_worth 5 = .ok (.bipush 6, 2) := by decide +kernel
theorem d_Wo_worth_7 : decode b_Wo_worth 7 = .ok (.if_icmp .ge 26, 3) := by decide +kernel
theorem d_Wo_worth_10 : decode b_Wo_worth 10 = .ok (.iload_n 2, 1) := by decide +kernel
theorem d_Wo_worth_11 : decode b_Wo_worth 11 = .ok (.aload_n 0, 1) := by decide +kernel
theorem d_Wo_worth_12 : decode b_Wo_worth 12 = .ok (.getfield 23, 3) := by decide +kernel
theorem d_Wo_worth_15 : decode b_Wo_worth 15 = .ok (.iload_n 1, 1) := by decide +kernel
theorem d_Wo_worth_16 : decode b_Wo_worth 16 = .ok (.aaload, 1) := by decide +kernel
theorem d_Wo_worth_17 : decode b_Wo_worth 17 = .ok (.iload_n 3, 1) := by decide +kernel
theorem d_Wo_worth_18 : decode b_Wo_worth 18 = .ok (.iaload, 1) := by decide +kernel
theorem d_Wo_worth_19 : decode b_Wo_worth 19 = .ok (.getstatic 75, 3) := by decide +kernel
theorem d_Wo_worth_22 : decode b_Wo_worth 22 = .ok (.iload_n 3, 1) := by decide +kernel
theorem d_Wo_worth_23 : decode b_Wo_worth 23 = .ok (.iaload, 1) := by decide +kernel
theorem d_Wo_worth_24 : decode b_Wo_worth 24 = .ok (.imul, 1) := by decide +kernel
theorem d_Wo_worth_25 : decode b_Wo_worth 25 = .ok (.iadd, 1) := by decide +kernel
theorem d_Wo_worth_26 : decode b_Wo_worth 26 = .ok (.istore_n 2, 1) := by decide +kernel
theorem d_Wo_worth_27 : decode b_Wo_worth 27 = .ok (.iinc 3 1, 3) := by decide +kernel
theorem d_Wo_worth_30 : decode b_Wo_worth 30 = .ok (.goto (-26), 3) := by decide +kernel
theorem d_Wo_worth_33 : decode b_Wo_worth 33 = .ok (.iload_n 2, 1) := by decide +kernel
theorem d_Wo_worth_34 : decode b_Wo_worth 34 = .ok (.ireturn, 1) := by decide +kernel
set_option maxRecDepth 20000 in
theorem c_Wo_worth_b4 {r : Int32} {wz : gW} {rec4 : Nat × Int32 × Int32 × Int32 × gW → Option (Int32 × gW)} (ih4 : ∀ (a0 : Nat) (a1 : Int32) (a2 : Int32) (a3 : Int32) (w : gW) (ls : Array Slot) (H : Heap) (locs : List Loc), rec4 (a0, a1, a2, a3, w) = some (r, wz) → lv_has ls 4 [(0, .ref (B + a0)), (1, .int a1), (2, .int a2), (3, .int a3)] → gRep D cA B w H → va_S (gA B) s.heap H locs → W p l e ({ frames := 1, cells := 0, slots := 0, locals := 40 } : Room) s m args below meth c H locs 0 0 (MQ below (gQi D cA B r wz) args s 0 0 (gA B)) (F0 m 4 ls [])) (C : gC p s m args meth c "RidCoppers$World" b_Wo_worth 4 (some .int) D cA oc B) (a0 : Nat) (a1 : Int32) (a2 : Int32) (a3 : Int32) (w : gW) {ls : Array Slot} {H : Heap} {locs : List Loc} (hl : lv_has ls 4 [(0, .ref (B + a0)), (1, .int a1), (2, .int a2), (3, .int a3)]) (hf : f_Wo_worth_b4 N rec4 a0 a1 a2 a3 w = some (r, wz)) (hR : gRep D cA B w H) (hS : va_S (gA B) s.heap H locs) : W p l e ({ frames := 1, cells := 0, slots := 0, locals := 40 } : Room) s m args below meth c H locs 0 0 (MQ below (gQi D cA B r wz) args s 0 0 (gA B)) (F0 m 4 ls []) := by
  obtain ⟨hx, hb, hml, hown, hts, hr, hlocks, hK, hBs⟩ := id C
  unfold f_Wo_worth_b4 at hf
  refine lv_iload_n hx hb d_Wo_worth_4 rfl (lv_at hl 3 rfl) ?_
  refine lv_bipush (v := 6) hx hb d_Wo_worth_5 (by decide) ?_
  refine lv_icmp_ge (tgt := 33) hx hb d_Wo_worth_7 (by decide) (fun hc => ?_) (fun hc => ?_)
  · have hf := cd_t hc hf
    refine lv_iload_n hx hb d_Wo_worth_33 rfl (lv_at hl 2 rfl) ?_
    exact g_iret hx hb hr hlocks hR hS hf rfl d_Wo_worth_34
  have hf := cd_f hc hf
  refine lv_iload_n hx hb d_Wo_worth_10 rfl (lv_at hl 2 rfl) ?_
  refine lv_aload_n hx hb d_Wo_worth_11 rfl (lv_at hl 0 rfl) ?_
  have ⟨h1, hf⟩ := gd_e hf
  have ⟨x2, h3, hf⟩ := rr_e hf
  refine g_getR hx hb hts hown hK hR fl_Wo_23 (fun _ => rfl) h1 h3 d_Wo_worth_12 ?_
  refine lv_iload_n hx hb d_Wo_worth_15 rfl (lv_at hl 1 rfl) ?_
  have ⟨h4, hf⟩ := gd_e hf
  have ⟨h5, hf⟩ := gd_e hf
  have ⟨x6, h7, hf⟩ := rr_e hf
  refine g_aald hx hb hK hR (by decide) rfl (fun _ _ => rfl) h4 h5 h7 d_Wo_worth_16 ?_
  refine lv_iload_n hx hb d_Wo_worth_17 rfl (lv_at hl 3 rfl) ?_
  have ⟨h8, hf⟩ := gd_e hf
  have ⟨h9, hf⟩ := gd_e hf
  refine g_iald hx hb hK hR h8 h9 d_Wo_worth_18 ?_
  refine g_nI hf (fun x10 hf => ?_)
  refine g_worthN hx hb hown hK hS hK.2.2.2.1.2.2.1 d_Wo_worth_19 ?_
  refine lv_iload_n hx hb d_Wo_worth_22 rfl (lv_at hl 3 rfl) ?_
  have ⟨h11, hf⟩ := gd_e hf
  refine g_wld hx hb hK hS h11 d_Wo_worth_23 ?_
  refine g_nI hf (fun x12 hf => ?_)
  refine lv_imul hx hb d_Wo_worth_24 ?_
  refine g_nI hf (fun x13 hf => ?_)
  refine lv_iadd hx hb d_Wo_worth_25 ?_
  refine g_nI hf (fun x14 hf => ?_)
  refine lv_istore_n (lv' := [(2, .int x14), (0, .ref (B + a0)), (1, .int a1), (3, .int a3)]) hx hb d_Wo_worth_26 rfl hl (by decide) rfl (fun ls hl => ?_)
  refine g_iinc (lv' := fun x15 => [(3, .int x15), (2, .int x14), (0, .ref (B + a0)), (1, .int a1)]) hf hx hb d_Wo_worth_27 hl (k := 3) rfl (by decide) (by decide) (fun _ => rfl) (fun x15 ls hf hl => ?_)
  refine lv_goto (tgt := 4) hx hb d_Wo_worth_30 (by decide) ?_
  exact ih4 a0 a1 x14 x15 w _ _ _ hf (lv_sub hl [2, 3, 1, 0] rfl) hR hS
theorem c_Wo_worth_l4 {r : Int32} {wz : gW} (C : gC p s m args meth c "RidCoppers$World" b_Wo_worth 4 (some .int) D cA oc B) (a0 : Nat) (a1 : Int32) (a2 : Int32) (a3 : Int32) (w : gW) {ls : Array Slot} {H : Heap} {locs : List Loc} (hl : lv_has ls 4 [(0, .ref (B + a0)), (1, .int a1), (2, .int a2), (3, .int a3)]) (hf : f_Wo_worth_l4 N a0 a1 a2 a3 w = some (r, wz)) (hR : gRep D cA B w H) (hS : va_S (gA B) s.heap H locs) : W p l e ({ frames := 1, cells := 0, slots := 0, locals := 40 } : Room) s m args below meth c H locs 0 0 (MQ below (gQi D cA B r wz) args s 0 0 (gA B)) (F0 m 4 ls []) := by
  unfold f_Wo_worth_l4 at hf
  suffices hh : ∀ n : Nat, ∀ (a0 : Nat) (a1 : Int32) (a2 : Int32) (a3 : Int32) (w : gW) (ls : Array Slot) (H : Heap) (locs : List Loc), itr (fun rec (q : Nat × Int32 × Int32 × Int32 × gW) => f_Wo_worth_b4 N rec q.1 q.2.1 q.2.2.1 q.2.2.2.1 q.2.2.2.2) n (a0, a1, a2, a3, w) = some (r, wz) → lv_has ls 4 [(0, .ref (B + a0)), (1, .int a1), (2, .int a2), (3, .int a3)] → gRep D cA B w H → va_S (gA B) s.heap H locs → W p l e ({ frames := 1, cells := 0, slots := 0, locals := 40 } : Room) s m args below meth c H locs 0 0 (MQ below (gQi D cA B r wz) args s 0 0 (gA B)) (F0 m 4 ls []) from hh N a0 a1 a2 a3 w ls H locs hf hl hR hS
  intro n
  induction n with
  | zero => intro a0 a1 a2 a3 w ls H locs hf; cases hf
  | succ n ihn =>
    intro a0 a1 a2 a3 w ls H locs hf hl hR hS
    exact c_Wo_worth_b4 (N := N) ihn C a0 a1 a2 a3 w hl ((itr_s _ _ _).symm.trans hf) hR hS
set_option maxRecDepth 20000 in
theorem c_Wo_worth_b0 {r : Int32} {wz : gW} (C : gC p s m args meth c "RidCoppers$World" b_Wo_worth 4 (some .int) D cA oc B) (a0 : Nat) (a1 : Int32) (w : gW) {ls : Array Slot} {H : Heap} {locs : List Loc} (hl : lv_has ls 4 [(0, .ref (B + a0)), (1, .int a1)]) (hf : f_Wo_worth_b0 N a0 a1 w = some (r, wz)) (hR : gRep D cA B w H) (hS : va_S (gA B) s.heap H locs) : W p l e ({ frames := 1, cells := 0, slots := 0, locals := 40 } : Room) s m args below meth c H locs 0 0 (MQ below (gQi D cA B r wz) args s 0 0 (gA B)) (F0 m 0 ls []) := by
  obtain ⟨hx, hb, hml, hown, hts, hr, hlocks, hK, hBs⟩ := id C
  unfold f_Wo_worth_b0 at hf
  refine lv_iconst (v := 0) hx hb d_Wo_worth_0 (by decide) ?_
  refine lv_istore_n (lv' := [(2, .int 0), (0, .ref (B + a0)), (1, .int a1)]) hx hb d_Wo_worth_1 rfl hl (by decide) rfl (fun ls hl => ?_)
  refine lv_iconst (v := 0) hx hb d_Wo_worth_2 (by decide) ?_
  refine lv_istore_n (lv' := [(3, .int 0), (2, .int 0), (0, .ref (B + a0)), (1, .int a1)]) hx hb d_Wo_worth_3 rfl hl (by decide) rfl (fun ls hl => ?_)
  exact c_Wo_worth_l4 C a0 a1 0 0 w (lv_sub hl [2, 3, 1, 0] rfl) hf hR hS
theorem c_Wo_worth (l : Launch) (D : va_G) (cA : Nat → ClassId) (oc : gO) (B N : Nat) (a0 : Nat) (a1 : Int32) (w : gW) {wz : gW} {r : Int32} (hf : f_Wo_worth N a0 a1 w = some (r, wz)) : Met l y_Wo_worth (Cond.code y_Wo_worth b_Wo_worth 4 (some .int) :: lw_good) ({ frames := 1, cells := 0, slots := 0, locals := 40 } : Room) (gPre D cA oc B [.ref (B + a0), .int a1] w) (gQi D cA B r wz) 0 0 (gA B) := by
  refine Met.ofW (cc := b_Wo_worth) (maxL := 4) (ret := (some .int)) (by decide +kernel) rfl ?_
  intro p e s m args below meth c s₁ Bd hml hv
  obtain ⟨hargs, C, hR⟩ := gC.enter (l := l) rfl Bd hml hv
  subst hargs
  have hl := lv_entry ([.ref (B + a0), .int a1]) (n := 4) (Nat.le_of_ble_eq_true rfl)
  rw [lg_entry_eq]
  generalize (lg_sl ([.ref (B + a0), .int a1]) ++ List.replicate (4 - (lg_sl ([.ref (B + a0), .int a1])).length) Slot.unset).toArray = ls at hl ⊢
  have hl : lv_has ls 4 [(0, .ref (B + a0)), (1, .int a1)] := hl
  exact c_Wo_worth_b0 C a0 a1 w (lv_sub hl [0, 1] rfl) hf hR va_S.rf
