variable {p : Program} {l : Launch} {e : Env} {s : State} {m : MethodId} {args : Array Value} {below : List Frame} {meth : Method} {c : Code} {D : va_G} {cA : Nat → ClassId} {oc : gO} {B N : Nat}
theorem d_Lo_bitCount_0 : decode b_Lo_bitCount 0 = .ok (.lload_n 0, 1) := by decide +kernel
theorem d_Lo_bitCount_1 : decode b_Lo_bitCount 1 = .ok (.lload_n 0, 1) := by decide +kernel
theorem d_Lo_bitCount_2 : decode b_Lo_bitCount 2 = .ok (.iconst 1, 1) := by decide +kernel
theorem d_Lo_bitCount_3 : decode b_Lo_bitCount 3 = .ok (.lushr, 1) := by decide +kernel
theorem d_Lo_bitCount_4 : decode b_Lo_bitCount 4 = .ok (.ldc2_w 314, 3) := by decide +kernel
theorem d_Lo_bitCount_7 : decode b_Lo_bitCount 7 = .ok (.land, 1) := by decide +kernel
theorem d_Lo_bitCount_8 : decode b_Lo_bitCount 8 = .ok (.lsub, 1) := by decide +kernel
theorem d_Lo_bitCount_9 : decode b_Lo_bitCount 9 = .ok (.lstore_n 0, 1) := by decide +kernel
theorem d_Lo_bitCount_10 : decode b_Lo_bitCount 10 = .ok (.lload_n 0, 1) := by decide +kernel
theorem d_Lo_bitCount_11 : decode b_Lo_bitCount 11 = .ok (.ldc2_w 316, 3) := by decide +kernel
theorem d_Lo_bitCount_14 : decode b_Lo_bitCount 14 = .ok (.land, 1) := by decide +kernel
theorem d_Lo_bitCount_15 : decode b_Lo_bitCount 15 = .ok (.lload_n 0, 1) := by decide +kernel
theorem d_Lo_bitCount_16 : decode b_Lo_bitCount 16 = .ok (.iconst 2, 1) := by decide +kernel
theorem d_Lo_bitCount_17 : decode b_Lo_bitCount 17 = .ok (.lushr, 1) := by decide +kernel
theorem d_Lo_bitCount_18 : decode b_Lo_bitCount 18 = .ok (.ldc2_w 316, 3) := by decide +kernel
theorem d_Lo_bitCount_21 : decode b_Lo_bitCount 21 = .ok (.land, 1) := by decide +kernel
theorem d_Lo_bitCount_22 : decode b_Lo_bitCount 22 = .ok (.ladd, 1) := by decide +kernel
theorem d_Lo_bitCount_23 : decode b_Lo_bitCount 23 = .ok (.lstore_n 0, 1) := by decide +kernel
theorem d_Lo_bitCount_24 : decode b_Lo_bitCount 24 = .ok (.lload_n 0, 1) := by decide +kernel
theorem d_Lo_bitCount_25 : decode b_Lo_bitCount 25 = .ok (.lload_n 0, 1) := by decide +kernel
theorem d_Lo_bitCount_26 : decode b_Lo_bitCount 26 = .ok (.iconst 4, 1) := by decide +kernel
theorem d_Lo_bitCount_27 : decode b_Lo_bitCount 27 = .ok (.lushr, 1) := by decide +kernel
theorem d_Lo_bitCount_28 : decode b_Lo_bitCount 28 = .ok (.ladd, 1) := by decide +kernel
theorem d_Lo_bitCount_29 : decode b_Lo_bitCount 29 = .ok (.ldc2_w 318, 3) := by decide +kernel
theorem d_Lo_bitCount_32 : decode b_Lo_bitCount 32 = .ok (.land, 1) := by decide +kernel
theorem d_Lo_bitCount_33 : decode b_Lo_bitCount 33 = .ok (.lstore_n 0, 1) := by decide +kernel
theorem d_Lo_bitCount_34 : decode b_Lo_bitCount 34 = .ok (.lload_n 0, 1) := by decide +kernel
theorem d_Lo_bitCount_35 : decode b_Lo_bitCount 35 = .ok (.lload_n 0, 1) := by decide +kernel
theorem d_Lo_bitCount_36 : decode b_Lo_bitCount 36 = .ok (.bipush 8, 2) := by decide +kernel
theorem d_Lo_bitCount_38 : decode b_Lo_bitCount 38 = .ok (.lushr, 1) := by decide +kernel
theorem d_Lo_bitCount_39 : decode b_Lo_bitCount 39 = .ok (.ladd, 1) := by decide +kernel
theorem d_Lo_bitCount_40 : decode b_Lo_bitCount 40 = .ok (.lstore_n 0, 1) := by decide +kernel
theorem d_Lo_bitCount_41 : decode b_Lo_bitCount 41 = .ok (.lload_n 0, 1) := by decide +kernel
theorem d_Lo_bitCount_42 : decode b_Lo_bitCount 42 = .ok (.lload_n 0, 1) := by decide +kernel
theorem d_Lo_bitCount_43 : decode b_Lo_bitCount 43 = .ok (.bipush 16, 2) := by decide +kernel
theorem d_Lo_bitCount_45 : decode b_Lo_bitCount 45 = .ok (.lushr, 1) := by decide +kernel
theorem d_Lo_bitCount_46 : decode b_Lo_bitCount 46 = .ok (.ladd, 1) := by decide +kernel
theorem d_Lo_bitCount_47 : decode b_Lo_bitCount 47 = .ok (.lstore_n 0, 1) := by decide +kernel
theorem d_Lo_bitCount_48 : decode b_Lo_bitCount 48 = .ok (.lload_n 0, 1) := by decide +kernel
theorem d_Lo_bitCount_49 : decode b_Lo_bitCount 49 = .ok (.lload_n 0, 1) := by decide +kernel
theorem d_Lo_bitCount_50 : decode b_Lo_bitCount 50 = .ok (.bipush 32, 2) := by decide +kernel
theorem d_Lo_bitCount_52 : decode b_Lo_bitCount 52 = .ok (.lushr, 1) := by decide +kernel
theorem d_Lo_bitCount_53 : decode b_Lo_bitCount 53 = .ok (.ladd, 1) := by decide +kernel
theorem d_Lo_bitCount_54 : decode b_Lo_bitCount 54 = .ok (.lstore_n 0, 1) := by decide +kernel
theorem d_Lo_bitCount_55 : decode b_Lo_bitCount 55 = .ok (.lload_n 0, 1) := by decide +kernel
theorem d_Lo_bitCount_56 : decode b_Lo_bitCount 56 = .ok (.l2i, 1) := by decide +kernel
theorem d_Lo_bitCount_57 : decode b_Lo_bitCount 57 = .ok (.bipush 127, 2) := by decide +kernel
theorem d_Lo_bitCount_59 : decode b_Lo_bitCount 59 = .ok (.iand, 1) := by decide +kernel
theorem d_Lo_bitCount_60 : decode b_Lo_bitCount 60 = .ok (.ireturn, 1) := by decide +kernel
set_option maxRecDepth 20000 in
theorem c_Lo_bitCount_b0 {r : Int32} {wz : gW} (C : gC p s m args meth c "java/lang/Long" b_Lo_bitCount 2 (some .int) D cA oc B) (a0 : Int64) (w : gW) {ls : Array Slot} {H : Heap} {locs : List Loc} (hl : lv_has ls 2 [(0, .long a0)]) (hf : f_Lo_bitCount_b0 N a0 w = some (r, wz)) (hR : gRep D cA B w H) (hS : va_S (gA B) s.heap H locs) : W p l e ({ frames := 1, cells := 0, slots := 0, locals := 40 } : Room) s m args below meth c H locs 0 0 (MQ below (gQi D cA B r wz) args s 0 0 (gA B)) (F0 m 0 ls []) := by
  obtain ⟨hx, hb, hml, hown, hts, hr, hlocks, hK, hBs⟩ := id C
  unfold f_Lo_bitCount_b0 at hf
  refine lv_lload_n hx hb d_Lo_bitCount_0 rfl (lv_at hl 0 rfl) ?_
  refine lv_lload_n hx hb d_Lo_bitCount_1 rfl (lv_at hl 0 rfl) ?_
  refine lv_iconst (v := 1) hx hb d_Lo_bitCount_2 (by decide) ?_
  refine lv_lushr hx hb d_Lo_bitCount_3 rfl ?_
  refine g_nL hf (fun x1 hf => ?_)
  refine lv_ldc2 hx hb hown (hts _ m_751) d_Lo_bitCount_4 ?_
  refine lv_land hx hb d_Lo_bitCount_7 ?_
  refine g_nL hf (fun x2 hf => ?_)
  refine lv_lsub hx hb d_Lo_bitCount_8 ?_
  refine g_nL hf (fun x3 hf => ?_)
  refine lv_lstore_n (lv' := [(0, .long x3)]) hx hb d_Lo_bitCount_9 rfl hl (by decide) rfl (fun ls hl => ?_)
  refine lv_lload_n hx hb d_Lo_bitCount_10 rfl (lv_at hl 0 rfl) ?_
  refine lv_ldc2 hx hb hown (hts _ m_752) d_Lo_bitCount_11 ?_
  refine lv_land hx hb d_Lo_bitCount_14 ?_
  refine g_nL hf (fun x4 hf => ?_)
  refine lv_lload_n hx hb d_Lo_bitCount_15 rfl (lv_at hl 0 rfl) ?_
  refine lv_iconst (v := 2) hx hb d_Lo_bitCount_16 (by decide) ?_
  refine lv_lushr hx hb d_Lo_bitCount_17 rfl ?_
  refine g_nL hf (fun x5 hf => ?_)
  refine lv_ldc2 hx hb hown (hts _ m_752) d_Lo_bitCount_18 ?_
  refine lv_land hx hb d_Lo_bitCount_21 ?_
  refine g_nL hf (fun x6 hf => ?_)
  refine lv_ladd hx hb d_Lo_bitCount_22 ?_
  refine g_nL hf (fun x7 hf => ?_)
  refine lv_lstore_n (lv' := [(0, .long x7)]) hx hb d_Lo_bitCount_23 rfl hl (by decide) rfl (fun ls hl => ?_)
  refine lv_lload_n hx hb d_Lo_bitCount_24 rfl (lv_at hl 0 rfl) ?_
  refine lv_lload_n hx hb d_Lo_bitCount_25 rfl (lv_at hl 0 rfl) ?_
  refine lv_iconst (v := 4) hx hb d_Lo_bitCount_26 (by decide) ?_
  refine lv_lushr hx hb d_Lo_bitCount_27 rfl ?_
  refine g_nL hf (fun x8 hf => ?_)
  refine lv_ladd hx hb d_Lo_bitCount_28 ?_
  refine g_nL hf (fun x9 hf => ?_)
  refine lv_ldc2 hx hb hown (hts _ m_753) d_Lo_bitCount_29 ?_
  refine lv_land hx hb d_Lo_bitCount_32 ?_
  refine g_nL hf (fun x10 hf => ?_)
  refine lv_lstore_n (lv' := [(0, .long x10)]) hx hb d_Lo_bitCount_33 rfl hl (by decide) rfl (fun ls hl => ?_)
  refine lv_lload_n hx hb d_Lo_bitCount_34 rfl (lv_at hl 0 rfl) ?_
  refine lv_lload_n hx hb d_Lo_bitCount_35 rfl (lv_at hl 0 rfl) ?_
  refine lv_bipush (v := 8) hx hb d_Lo_bitCount_36 (by decide) ?_
  refine lv_lushr hx hb d_Lo_bitCount_38 rfl ?_
  refine g_nL hf (fun x11 hf => ?_)
  refine lv_ladd hx hb d_Lo_bitCount_39 ?_
  refine g_nL hf (fun x12 hf => ?_)
  refine lv_lstore_n (lv' := [(0, .long x12)]) hx hb d_Lo_bitCount_40 rfl hl (by decide) rfl (fun ls hl => ?_)
  refine lv_lload_n hx hb d_Lo_bitCount_41 rfl (lv_at hl 0 rfl) ?_
  refine lv_lload_n hx hb d_Lo_bitCount_42 rfl (lv_at hl 0 rfl) ?_
  refine lv_bipush (v := 16) hx hb d_Lo_bitCount_43 (by decide) ?_
  refine lv_lushr hx hb d_Lo_bitCount_45 rfl ?_
  refine g_nL hf (fun x13 hf => ?_)
  refine lv_ladd hx hb d_Lo_bitCount_46 ?_
  refine g_nL hf (fun x14 hf => ?_)
  refine lv_lstore_n (lv' := [(0, .long x14)]) hx hb d_Lo_bitCount_47 rfl hl (by decide) rfl (fun ls hl => ?_)
  refine lv_lload_n hx hb d_Lo_bitCount_48 rfl (lv_at hl 0 rfl) ?_
  refine lv_lload_n hx hb d_Lo_bitCount_49 rfl (lv_at hl 0 rfl) ?_
  refine lv_bipush (v := 32) hx hb d_Lo_bitCount_50 (by decide) ?_
  refine lv_lushr hx hb d_Lo_bitCount_52 rfl ?_
  refine g_nL hf (fun x15 hf => ?_)
  refine lv_ladd hx hb d_Lo_bitCount_53 ?_
  refine g_nL hf (fun x16 hf => ?_)
  refine lv_lstore_n (lv' := [(0, .long x16)]) hx hb d_Lo_bitCount_54 rfl hl (by decide) rfl (fun ls hl => ?_)
  refine lv_lload_n hx hb d_Lo_bitCount_55 rfl (lv_at hl 0 rfl) ?_
  refine lv_l2i hx hb d_Lo_bitCount_56 rfl ?_
  refine g_nI hf (fun x17 hf => ?_)
  refine lv_bipush (v := 127) hx hb d_Lo_bitCount_57 (by decide) ?_
  refine lv_iand hx hb d_Lo_bitCount_59 ?_
  refine g_nI hf (fun x18 hf => ?_)
  exact g_iret hx hb hr hlocks hR hS hf rfl d_Lo_bitCount_60
theorem c_Lo_bitCount (l : Launch) (D : va_G) (cA : Nat → ClassId) (oc : gO) (B N : Nat) (a0 : Int64) (w : gW) {wz : gW} {r : Int32} (hf : f_Lo_bitCount N a0 w = some (r, wz)) : Met l y_Lo_bitCount (Cond.code y_Lo_bitCount b_Lo_bitCount 2 (some .int) :: lw_good) ({ frames := 1, cells := 0, slots := 0, locals := 40 } : Room) (gPre D cA oc B [.long a0] w) (gQi D cA B r wz) 0 0 (gA B) := by
  refine Met.ofW (cc := b_Lo_bitCount) (maxL := 2) (ret := (some .int)) (by decide +kernel) rfl ?_
  intro p e s m args below meth c s₁ Bd hml hv
  obtain ⟨hargs, C, hR⟩ := gC.enter (l := l) rfl Bd hml hv
  subst hargs
  have hl := lv_entry ([.long a0]) (n := 2) (Nat.le_of_ble_eq_true rfl)
  rw [lg_entry_eq]
  generalize (lg_sl ([.long a0]) ++ List.replicate (2 - (lg_sl ([.long a0])).length) Slot.unset).toArray = ls at hl ⊢
  have hl : lv_has ls 2 [(0, .long a0)] := hl
  exact c_Lo_bitCount_b0 C a0 w (lv_sub hl [0] rfl) hf hR va_S.rf
theorem d_S_isLatin1_0 : decode b_S_isLatin1 0 = .ok (.getstatic 38, 3) := by decide +kernel
theorem d_S_isLatin1_3 : decode b_S_isLatin1 3 = .ok (.ifCond .eq 14, 3) := by decide +kernel
theorem d_S_isLatin1_6 : decode b_S_isLatin1 6 = .ok (.aload_n 0, 1) := by decide +kernel
theorem d_S_isLatin1_7 : decode b_S_isLatin1 7 = .ok (.getfield 15, 3) := by decide +kernel
theorem d_S_isLatin1_10 : decode b_S_isLatin1 10 = .ok (.ifCond .ne 7, 3) := by decide +kernel
theorem d_S_isLatin1_13 : decode b_S_isLatin1 13 = .ok (.iconst 1, 1) := by decide +kernel
theorem d_S_isLatin1_14 : decode b_S_isLatin1 14 = .ok (.goto 4, 3) := by decide +kernel
theorem d_S_isLatin1_17 : decode b_S_isLatin1 17 = .ok (.iconst 0, 1) := by decide +kernel
theorem d_S_isLatin1_18 : decode b_S_isLatin1 18 = .ok (.ireturn, 1) := by decide +kernel
set_option maxRecDepth 20000 in
theorem c_S_isLatin1_b0 {r : Int32} {wz : gW} (C : gC p s m args meth c "java/lang/String" b_S_isLatin1 1 (some .boolean) D cA oc B) (a0 : Nat) (w : gW) {ls : Array Slot} {H : Heap} {locs : List Loc} (hl : lv_has ls 1 [(0, .ref (oc.2.1 a0))]) (hf : f_S_isLatin1_b0 N a0 w = some (r, wz)) (hR : gRep D cA B w H) (hS : va_S (gA B) s.heap H locs) : W p l e ({ frames := 1, cells := 0, slots := 0, locals := 40 } : Room) s m args below meth c H locs 0 0 (MQ below (gQi D cA B r wz) args s 0 0 (gA B)) (F0 m 0 ls []) := by
  obtain ⟨hx, hb, hml, hown, hts, hr, hlocks, hK, hBs⟩ := id C
  unfold f_S_isLatin1_b0 at hf
  refine g_compact hx hb hts hown hK hS m_461 d_S_isLatin1_0 ?_
  refine lv_if_eq (tgt := 17) hx hb d_S_isLatin1_3 (by decide) (fun hc => ?_) (fun hc => ?_)
  · have hf := cd_t hc hf
    refine lv_iconst (v := 0) hx hb d_S_isLatin1_17 (by decide) ?_
    exact g_iret hx hb hr hlocks hR hS hf rfl d_S_isLatin1_18
  have hf := cd_f hc hf
  refine lv_aload_n hx hb d_S_isLatin1_6 rfl (lv_at hl 0 rfl) ?_
  have ⟨h1, hf⟩ := gd_e hf
  refine g_strCod hx hb hts hown hK hS m_1583 h1 d_S_isLatin1_7 ?_
  refine lv_if_ne (tgt := 17) hx hb d_S_isLatin1_10 (by decide) (fun hc => ?_) (fun hc => ?_)
  · have hf := cd_f hc hf
    refine lv_iconst (v := 0) hx hb d_S_isLatin1_17 (by decide) ?_
    exact g_iret hx hb hr hlocks hR hS hf rfl d_S_isLatin1_18
  have hf := cd_t hc hf
  refine lv_iconst (v := 1) hx hb d_S_isLatin1_13 (by decide) ?_
  refine lv_goto (tgt := 18) hx hb d_S_isLatin1_14 (by decide) ?_
  exact g_iret hx hb hr hlocks hR hS hf rfl d_S_isLatin1_18
theorem c_S_isLatin1 (l : Launch) (D : va_G) (cA : Nat → ClassId) (oc : gO) (B N : Nat) (a0 : Nat) (w : gW) {wz : gW} {r : Int32} (hf : f_S_isLatin1 N a0 w = some (r, wz)) : Met l y_S_isLatin1 (Cond.code y_S_isLatin1 b_S_isLatin1 1 (some .boolean) :: lw_good) ({ frames := 1, cells := 0, slots := 0, locals := 40 } : Room) (gPre D cA oc B [.ref (oc.2.1 a0)] w) (gQi D cA B r wz) 0 0 (gA B) := by
  refine Met.ofW (cc := b_S_isLatin1) (maxL := 1) (ret := (some .boolean)) (by decide +kernel) rfl ?_
  intro p e s m args below meth c s₁ Bd hml hv
  obtain ⟨hargs, C, hR⟩ := gC.enter (l := l) rfl Bd hml hv
  subst hargs
  have hl := lv_entry ([.ref (oc.2.1 a0)]) (n := 1) (Nat.le_of_ble_eq_true rfl)
  rw [lg_entry_eq]
  generalize (lg_sl ([.ref (oc.2.1 a0)]) ++ List.replicate (1 - (lg_sl ([.ref (oc.2.1 a0)])).length) Slot.unset).toArray = ls at hl ⊢
  have hl : lv_has ls 1 [(0, .ref (oc.2.1 a0))] := hl
  exact c_S_isLatin1_b0 C a0 w (lv_sub hl [0] rfl) hf hR va_S.rf
theorem d_S_coder_0 : decode b_S_coder 0 = .ok (.getstatic 38, 3) := by decide +kernel
theorem d_S_coder_3 : decode b_S_coder 3 = .ok (.ifCond .eq 10, 3) := by decide +kernel
theorem d_S_coder_6 : decode b_S_coder 6 = .ok (.aload_n 0, 1) := by decide +kernel
theorem d_S_coder_7 : decode b_S_coder 7 = .ok (.getfield 15, 3) := by decide +kernel
theorem d_S_coder_10 : decode b_S_coder 10 = .ok (.goto 4, 3) := by decide +kernel
theorem d_S_coder_13 : decode b_S_coder 13 = .ok (.iconst 1, 1) := by decide +kernel
theorem d_S_coder_14 : decode b_S_coder 14 = .ok (.ireturn, 1) := by decide +kernel
set_option maxRecDepth 20000 in
theorem c_S_coder_b0 {r : Int32} {wz : gW} (C : gC p s m args meth c "java/lang/String" b_S_coder 1 (some .byte) D cA oc B) (a0 : Nat) (w : gW) {ls : Array Slot} {H : Heap} {locs : List Loc} (hl : lv_has ls 1 [(0, .ref (oc.2.1 a0))]) (hf : f_S_coder_b0 N a0 w = some (r, wz)) (hR : gRep D cA B w H) (hS : va_S (gA B) s.heap H locs) : W p l e ({ frames := 1, cells := 0, slots := 0, locals := 40 } : Room) s m args below meth c H locs 0 0 (MQ below (gQi D cA B r wz) args s 0 0 (gA B)) (F0 m 0 ls []) := by
  obtain ⟨hx, hb, hml, hown, hts, hr, hlocks, hK, hBs⟩ := id C
  unfold f_S_coder_b0 at hf
  refine g_compact hx hb hts hown hK hS m_461 d_S_coder_0 ?_
  refine lv_if_eq (tgt := 13) hx hb d_S_coder_3 (by decide) (fun hc => ?_) (fun hc => ?_)
  · have hf := cd_t hc hf
    refine lv_iconst (v := 1) hx hb d_S_coder_13 (by decide) ?_
    exact g_iret hx hb hr hlocks hR hS hf rfl d_S_coder_14
  have hf := cd_f hc hf
  refine lv_aload_n hx hb d_S_coder_6 rfl (lv_at hl 0 rfl) ?_
  have ⟨h1, hf⟩ := gd_e hf
  refine g_strCod hx hb hts hown hK hS m_1583 h1 d_S_coder_7 ?_
  refine lv_goto (tgt := 14) hx hb d_S_coder_10 (by decide) ?_
  exact g_iret hx hb hr hlocks hR hS hf rfl d_S_coder_14
theorem c_S_coder (l : Launch) (D : va_G) (cA : Nat → ClassId) (oc : gO) (B N : Nat) (a0 : Nat) (w : gW) {wz : gW} {r : Int32} (hf : f_S_coder N a0 w = some (r, wz)) : Met l y_S_coder (Cond.code y_S_coder b_S_coder 1 (some .byte) :: lw_good) ({ frames := 1, cells := 0, slots := 0, locals := 40 } : Room) (gPre D cA oc B [.ref (oc.2.1 a0)] w) (gQi D cA B r wz) 0 0 (gA B) := by
  refine Met.ofW (cc := b_S_coder) (maxL := 1) (ret := (some .byte)) (by decide +kernel) rfl ?_
  intro p e s m args below meth c s₁ Bd hml hv
  obtain ⟨hargs, C, hR⟩ := gC.enter (l := l) rfl Bd hml hv
  subst hargs
  have hl := lv_entry ([.ref (oc.2.1 a0)]) (n := 1) (Nat.le_of_ble_eq_true rfl)
  rw [lg_entry_eq]
  generalize (lg_sl ([.ref (oc.2.1 a0)]) ++ List.replicate (1 - (lg_sl ([.ref (oc.2.1 a0)])).length) Slot.unset).toArray = ls at hl ⊢
  have hl : lv_has ls 1 [(0, .ref (oc.2.1 a0))] := hl
  exact c_S_coder_b0 C a0 w (lv_sub hl [0] rfl) hf hR va_S.rf
theorem d_S_length_0 : decode b_S_length 0 = .ok (.aload_n 0, 1) := by decide +kernel
theorem d_S_length_1 : decode b_S_length 1 = .ok (.getfield 9, 3) := by decide +kernel
theorem d_S_length_4 : decode b_S_length 4 = .ok (.arraylength, 1) := by decide +kernel
theorem d_S_length_5 : decode b_S_length 5 = .ok (.aload_n 0, 1) := by decide +kernel
theorem d_S_length_6 : decode b_S_length 6 = .ok (.invokevirtual 335, 3) := by decide +kernel
theorem d_S_length_9 : decode b_S_length 9 = .ok (.ishr, 1) := by decide +kernel
theorem d_S_length_10 : decode b_S_length 10 = .ok (.ireturn, 1) := by decide +kernel
set_option maxRecDepth 20000 in
theorem c_S_length_b0 {r : Int32} {wz : gW} (C : gC p s m args meth c "java/lang/String" b_S_length 1 (some .int) D cA oc B) (a0 : Nat) (w : gW) {ls : Array Slot} {H : Heap} {locs : List Loc} (hl : lv_has ls 1 [(0, .ref (oc.2.1 a0))]) (hf : f_S_length_b0 N a0 w = some (r, wz)) (hR : gRep D cA B w H) (hS : va_S (gA B) s.heap H locs) : W p l e ({ frames := 2, cells := 0, slots := 0, locals := 60 } : Room) s m args below meth c H locs 0 0 (MQ below (gQi D cA B r wz) args s 0 0 (gA B)) (F0 m 0 ls []) := by
  obtain ⟨hx, hb, hml, hown, hts, hr, hlocks, hK, hBs⟩ := id C
  unfold f_S_length_b0 at hf
  refine lv_aload_n hx hb d_S_length_0 rfl (lv_at hl 0 rfl) ?_
  have ⟨h1, hf⟩ := gd_e hf
  refine g_strVal hx hb hts hown hK hS m_1582 h1 d_S_length_1 ?_
  refine g_sblen hx hb hK hS h1 d_S_length_4 ?_
  refine g_nI hf (fun x2 hf => ?_)
  refine lv_aload_n hx hb d_S_length_5 rfl (lv_at hl 0 rfl) ?_
  have ⟨x3, w4, h5, hf⟩ := kl_e hf
  refine g_ki0 (g_rV (As := []) (rest := [.int x2]) hx hb hml hown hts hK hR hS (c_S_coder l D cA oc B N a0 w h5) I_S_coder m_457 m_459 (gRecvS hK hS h1) rfl rfl (Nat.le_of_ble_eq_true rfl) hl.1 ⟨Nat.le_of_ble_eq_true rfl, Nat.le_of_ble_eq_true rfl⟩ ⟨Nat.le_of_ble_eq_true rfl, Nat.le_of_ble_eq_true rfl⟩ d_S_length_6) hS (fun H locs hR hS => ?_)
  refine lv_ishr hx hb d_S_length_9 ?_
  refine g_nI hf (fun x6 hf => ?_)
  exact g_iret hx hb hr hlocks hR hS hf rfl d_S_length_10
theorem c_S_length (l : Launch) (D : va_G) (cA : Nat → ClassId) (oc : gO) (B N : Nat) (a0 : Nat) (w : gW) {wz : gW} {r : Int32} (hf : f_S_length N a0 w = some (r, wz)) : Met l y_S_length (Cond.code y_S_length b_S_length 1 (some .int) :: lw_good) ({ frames := 2, cells := 0, slots := 0, locals := 60 } : Room) (gPre D cA oc B [.ref (oc.2.1 a0)] w) (gQi D cA B r wz) 0 0 (gA B) := by
  refine Met.ofW (cc := b_S_length) (maxL := 1) (ret := (some .int)) (by decide +kernel) rfl ?_
  intro p e s m args below meth c s₁ Bd hml hv
  obtain ⟨hargs, C, hR⟩ := gC.enter (l := l) rfl Bd hml hv
  subst hargs
  have hl := lv_entry ([.ref (oc.2.1 a0)]) (n := 1) (Nat.le_of_ble_eq_true rfl)
  rw [lg_entry_eq]
  generalize (lg_sl ([.ref (oc.2.1 a0)]) ++ List.replicate (1 - (lg_sl ([.ref (oc.2.1 a0)])).length) Slot.unset).toArray = ls at hl ⊢
  have hl : lv_has ls 1 [(0, .ref (oc.2.1 a0))] := hl
  exact c_S_length_b0 C a0 w (lv_sub hl [0] rfl) hf hR va_S.rf
theorem d_L1_canEncode_0 : decode b_L1_canEncode 0 = .ok (.iload_n 0, 1) := by decide +kernel
theorem d_L1_canEncode_1 : decode b_L1_canEncode 1 = .ok (.ifCond .lt 14, 3) := by decide +kernel
theorem d_L1_canEncode_4 : decode b_L1_canEncode 4 = .ok (.iload_n 0, 1) := by decide +kernel
theorem d_L1_canEncode_5 : decode b_L1_canEncode 5 = .ok (.sipush 255, 3) := by decide +kernel
theorem d_L1_canEncode_8 : decode b_L1_canEncode 8 = .ok (.if_icmp .gt 7, 3) := by decide +kernel
theorem d_L1_canEncode_11 : decode b_L1_canEncode 11 = .ok (.iconst 1, 1) := by decide +kernel
theorem d_L1_canEncode_12 : decode b_L1_canEncode 12 = .ok (.goto 4, 3) := by decide +kernel
theorem d_L1_canEncode_15 : decode b_L1_canEncode 15 = .ok (.iconst 0, 1) := by decide +kernel
theorem d_L1_canEncode_16 : decode b_L1_canEncode 16 = .ok (.ireturn, 1) := by decide +kernel
set_option maxRecDepth 20000 in
theorem c_L1_canEncode_b0 {r : Int32} {wz : gW} (C : gC p s m args meth c "java/lang/StringLatin1" b_L1_canEncode 1 (some .boolean) D cA oc B) (a0 : Int32) (w : gW) {ls : Array Slot} {H : Heap} {locs : List Loc} (hl : lv_has ls 1 [(0, .int a0)]) (hf : f_L1_canEncode_b0 N a0 w = some (r, wz)) (hR : gRep D cA B w H) (hS : va_S (gA B) s.heap H locs) : W p l e ({ frames := 1, cells := 0, slots := 0, locals := 40 } : Room) s m args below meth c H locs 0 0 (MQ below (gQi D cA B r wz) args s 0 0 (gA B)) (F0 m 0 ls []) := by
  obtain ⟨hx, hb, hml, hown, hts, hr, hlocks, hK, hBs⟩ := id C
  unfold f_L1_canEncode_b0 at hf
  refine lv_iload_n hx hb d_L1_canEncode_0 rfl (lv_at hl 0 rfl) ?_
  refine lv_if_lt (tgt := 15) hx hb d_L1_canEncode_1 (by decide) (fun hc => ?_) (fun hc => ?_)
  · have hf := cd_t hc hf
    refine lv_iconst (v := 0) hx hb d_L1_canEncode_15 (by decide) ?_
    exact g_iret hx hb hr hlocks hR hS hf rfl d_L1_canEncode_16
  have hf := cd_f hc hf
  refine lv_iload_n hx hb d_L1_canEncode_4 rfl (lv_at hl 0 rfl) ?_
  refine lv_sipush (v := 255) hx hb d_L1_canEncode_5 (by decide) ?_
  refine lv_icmp_gt (tgt := 15) hx hb d_L1_canEncode_8 (by decide) (fun hc => ?_) (fun hc => ?_)
  · have hf := cd_t hc hf
    refine lv_iconst (v := 0) hx hb d_L1_canEncode_15 (by decide) ?_
    exact g_iret hx hb hr hlocks hR hS hf rfl d_L1_canEncode_16
  have hf := cd_f hc hf
  refine lv_iconst (v := 1) hx hb d_L1_canEncode_11 (by decide) ?_
  refine lv_goto (tgt := 16) hx hb d_L1_canEncode_12 (by decide) ?_
  exact g_iret hx hb hr hlocks hR hS hf rfl d_L1_canEncode_16
theorem c_L1_canEncode (l : Launch) (D : va_G) (cA : Nat → ClassId) (oc : gO) (B N : Nat) (a0 : Int32) (w : gW) {wz : gW} {r : Int32} (hf : f_L1_canEncode N a0 w = some (r, wz)) : Met l y_L1_canEncode (Cond.code y_L1_canEncode b_L1_canEncode 1 (some .boolean) :: lw_good) ({ frames := 1, cells := 0, slots := 0, locals := 40 } : Room) (gPre D cA oc B [.int a0] w) (gQi D cA B r wz) 0 0 (gA B) := by
  refine Met.ofW (cc := b_L1_canEncode) (maxL := 1) (ret := (some .boolean)) (by decide +kernel) rfl ?_
  intro p e s m args below meth c s₁ Bd hml hv
  obtain ⟨hargs, C, hR⟩ := gC.enter (l := l) rfl Bd hml hv
  subst hargs
  have hl := lv_entry ([.int a0]) (n := 1) (Nat.le_of_ble_eq_true rfl)
  rw [lg_entry_eq]
  generalize (lg_sl ([.int a0]) ++ List.replicate (1 - (lg_sl ([.int a0])).length) Slot.unset).toArray = ls at hl ⊢
  have hl : lv_has ls 1 [(0, .int a0)] := hl
  exact c_L1_canEncode_b0 C a0 w (lv_sub hl [0] rfl) hf hR va_S.rf
theorem d_L1_indexOfChar_0 : decode b_L1_indexOfChar 0 = .ok (.iload_n 1, 1) := by decide +kernel
theorem d_L1_indexOfChar_1 : decode b_L1_indexOfChar 1 = .ok (.i2b, 1) := by decide +kernel
theorem d_L1_indexOfChar_2 : decode b_L1_indexOfChar 2 = .ok (.istore 4, 2) := by decide +kernel
theorem d_L1_indexOfChar_4 : decode b_L1_indexOfChar 4 = .ok (.iload_n 2, 1) := by decide +kernel
theorem d_L1_indexOfChar_5 : decode b_L1_indexOfChar 5 = .ok (.istore 5, 2) := by decide +kernel
theorem d_L1_indexOfChar_7 : decode b_L1_indexOfChar 7 = .ok (.iload 5, 2) := by decide +kernel
theorem d_L1_indexOfChar_9 : decode b_L1_indexOfChar 9 = .ok (.iload_n 3, 1) := by decide +kernel
theorem d_L1_indexOfChar_10 : decode b_L1_indexOfChar 10 = .ok (.if_icmp .ge 21, 3) := by decide +kernel
theorem d_L1_indexOfChar_13 : decode b_L1_indexOfChar 13 = .ok (.aload_n 0, 1) := by decide +kernel
theorem d_L1_indexOfChar_14 : decode b_L1_indexOfChar 14 = .ok (.iload 5, 2) := by decide +kernel
theorem d_L1_indexOfChar_16 : decode b_L1_indexOfChar 16 = .ok (.baload, 1) := by decide +kernel
theorem d_L1_indexOfChar_17 : decode b_L1_indexOfChar 17 = .ok (.iload 4, 2) := by decide +kernel
theorem d_L1_indexOfChar_19 : decode b_L1_indexOfChar 19 = .ok (.if_icmp .ne 6, 3) := by decide +kernel
theorem d_L1_indexOfChar_22 : decode b_L1_indexOfChar 22 = .ok (.iload 5, 2) := by decide +kernel
theorem d_L1_indexOfChar_24 : decode b_L1_indexOfChar 24 = .ok (.ireturn, 1) := by decide +kernel
theorem d_L1_indexOfChar_25 : decode b_L1_indexOfChar 25 = .ok (.iinc 5 1, 3) := by decide +kernel
theorem d_L1_indexOfChar_28 : decode b_L1_indexOfChar 28 = .ok (.goto (-21), 3) := by decide +kernel
theorem d_L1_indexOfChar_31 : decode b_L1_indexOfChar 31 = .ok (.iconst (-1), 1) := by decide +kernel
theorem d_L1_indexOfChar_32 : decode b_L1_indexOfChar 32 = .ok (.ireturn, 1) := by decide +kernel
set_option maxRecDepth 20000 in
theorem c_L1_indexOfChar_b7 {r : Int32} {wz : gW} {rec7 : Nat × Int32 × Int32 × Int32 × gW → Option (Int32 × gW)} (ih7 : ∀ (a0 : Nat) (a3 : Int32) (a4 : Int32) (a5 : Int32) (w : gW) (ls : Array Slot) (H : Heap) (locs : List Loc), rec7 (a0, a3, a4, a5, w) = some (r, wz) → lv_has ls 6 [(0, .ref (oc.2.2 a0)), (3, .int a3), (4, .int a4), (5, .int a5)] → gRep D cA B w H → va_S (gA B) s.heap H locs → W p l e ({ frames := 1, cells := 0, slots := 0, locals := 40 } : Room) s m args below meth c H locs 0 0 (MQ below (gQi D cA B r wz) args s 0 0 (gA B)) (F0 m 7 ls [])) (C : gC p s m args meth c "java/lang/StringLatin1" b_L1_indexOfChar 6 (some .int) D cA oc B) (a0 : Nat) (a3 : Int32) (a4 : Int32) (a5 : Int32) (w : gW) {ls : Array Slot} {H : Heap} {locs : List Loc} (hl : lv_has ls 6 [(0, .ref (oc.2.2 a0)), (3, .int a3), (4, .int a4), (5, .int a5)]) (hf : f_L1_indexOfChar_b7 N rec7 a0 a3 a4 a5 w = some (r, wz)) (hR : gRep D cA B w H) (hS : va_S (gA B) s.heap H locs) : W p l e ({ frames := 1, cells := 0, slots := 0, locals := 40 } : Room) s m args below meth c H locs 0 0 (MQ below (gQi D cA B r wz) args s 0 0 (gA B)) (F0 m 7 ls []) := by
  obtain ⟨hx, hb, hml, hown, hts, hr, hlocks, hK, hBs⟩ := id C
  unfold f_L1_indexOfChar_b7 at hf
  refine lv_iload hx hb d_L1_indexOfChar_7 (lv_at hl 3 rfl) ?_
  refine lv_iload_n hx hb d_L1_indexOfChar_9 rfl (lv_at hl 1 rfl) ?_
  refine lv_icmp_ge (tgt := 31) hx hb d_L1_indexOfChar_10 (by decide) (fun hc => ?_) (fun hc => ?_)
  · have hf := cd_t hc hf
    refine lv_iconst (v := (-1)) hx hb d_L1_indexOfChar_31 (by decide) ?_
    exact g_iret hx hb hr hlocks hR hS hf rfl d_L1_indexOfChar_32
  have hf := cd_f hc hf
  refine lv_aload_n hx hb d_L1_indexOfChar_13 rfl (lv_at hl 0 rfl) ?_
  refine lv_iload hx hb d_L1_indexOfChar_14 (lv_at hl 3 rfl) ?_
  have ⟨h2, hf⟩ := gd_e hf
  have ⟨h3, hf⟩ := gd_e hf
  refine g_sbald hx hb hK hS h2 h3 d_L1_indexOfChar_16 ?_
  refine g_nI hf (fun x4 hf => ?_)
  refine lv_iload hx hb d_L1_indexOfChar_17 (lv_at hl 2 rfl) ?_
  refine lv_icmp_ne (tgt := 25) hx hb d_L1_indexOfChar_19 (by decide) (fun hc => ?_) (fun hc => ?_)
  · have hf := cd_f hc hf
    refine g_iinc (lv' := fun x5 => [(5, .int x5), (0, .ref (oc.2.2 a0)), (3, .int a3), (4, .int a4)]) hf hx hb d_L1_indexOfChar_25 hl (k := 3) rfl (by decide) (by decide) (fun _ => rfl) (fun x5 ls hf hl => ?_)
    refine lv_goto (tgt := 7) hx hb d_L1_indexOfChar_28 (by decide) ?_
    exact ih7 a0 a3 a4 x5 w _ _ _ hf (lv_sub hl [1, 2, 3, 0] rfl) hR hS
  have hf := cd_t hc hf
  refine lv_iload hx hb d_L1_indexOfChar_22 (lv_at hl 3 rfl) ?_
  exact g_iret hx hb hr hlocks hR hS hf rfl d_L1_indexOfChar_24
theorem c_L1_indexOfChar_l7 {r : Int32} {wz : gW} (C : gC p s m args meth c "java/lang/StringLatin1" b_L1_indexOfChar 6 (some .int) D cA oc B) (a0 : Nat) (a3 : Int32) (a4 : Int32) (a5 : Int32) (w : gW) {ls : Array Slot} {H : Heap} {locs : List Loc} (hl : lv_has ls 6 [(0, .ref (oc.2.2 a0)), (3, .int a3), (4, .int a4), (5, .int a5)]) (hf : f_L1_indexOfChar_l7 N a0 a3 a4 a5 w = some (r, wz)) (hR : gRep D cA B w H) (hS : va_S (gA B) s.heap H locs) : W p l e ({ frames := 1, cells := 0, slots := 0, locals := 40 } : Room) s m args below meth c H locs 0 0 (MQ below (gQi D cA B r wz) args s 0 0 (gA B)) (F0 m 7 ls []) := by
  unfold f_L1_indexOfChar_l7 at hf
  suffices hh : ∀ n : Nat, ∀ (a0 : Nat) (a3 : Int32) (a4 : Int32) (a5 : Int32) (w : gW) (ls : Array Slot) (H : Heap) (locs : List Loc), itr (fun rec (q : Nat × Int32 × Int32 × Int32 × gW) => f_L1_indexOfChar_b7 N rec q.1 q.2.1 q.2.2.1 q.2.2.2.1 q.2.2.2.2) n (a0, a3, a4, a5, w) = some (r, wz) → lv_has ls 6 [(0, .ref (oc.2.2 a0)), (3, .int a3), (4, .int a4), (5, .int a5)] → gRep D cA B w H → va_S (gA B) s.heap H locs → W p l e ({ frames := 1, cells := 0, slots := 0, locals := 40 } : Room) s m args below meth c H locs 0 0 (MQ below (gQi D cA B r wz) args s 0 0 (gA B)) (F0 m 7 ls []) from hh N a0 a3 a4 a5 w ls H locs hf hl hR hS
  intro n
  induction n with
  | zero => intro a0 a3 a4 a5 w ls H locs hf; cases hf
  | succ n ihn =>
    intro a0 a3 a4 a5 w ls H locs hf hl hR hS
    exact c_L1_indexOfChar_b7 (N := N) ihn C a0 a3 a4 a5 w hl ((itr_s _ _ _).symm.trans hf) hR hS
set_option maxRecDepth 20000 in
theorem c_L1_indexOfChar_b0 {r : Int32} {wz : gW} (C : gC p s m args meth c "java/lang/StringLatin1" b_L1_indexOfChar 6 (some .int) D cA oc B) (a0 : Nat) (a1 : Int32) (a2 : Int32) (a3 : Int32) (w : gW) {ls : Array Slot} {H : Heap} {locs : List Loc} (hl : lv_has ls 6 [(0, .ref (oc.2.2 a0)), (1, .int a1), (2, .int a2), (3, .int a3)]) (hf : f_L1_indexOfChar_b0 N a0 a1 a2 a3 w = some (r, wz)) (hR : gRep D cA B w H) (hS : va_S (gA B) s.heap H locs) : W p l e ({ frames := 1, cells := 0, slots := 0, locals := 40 } : Room) s m args below meth c H locs 0 0 (MQ below (gQi D cA B r wz) args s 0 0 (gA B)) (F0 m 0 ls []) := by
  obtain ⟨hx, hb, hml, hown, hts, hr, hlocks, hK, hBs⟩ := id C
  unfold f_L1_indexOfChar_b0 at hf
  refine lv_iload_n hx hb d_L1_indexOfChar_0 rfl (lv_at hl 1 rfl) ?_
  refine lv_i2b hx hb d_L1_indexOfChar_1 rfl ?_
  refine g_nI hf (fun x1 hf => ?_)
  refine lv_istore (lv' := [(4, .int x1), (0, .ref (oc.2.2 a0)), (1, .int a1), (2, .int a2), (3, .int a3)]) hx hb d_L1_indexOfChar_2 hl (by decide) rfl (fun ls hl => ?_)
  refine lv_iload_n hx hb d_L1_indexOfChar_4 rfl (lv_at hl 3 rfl) ?_
  refine lv_istore (lv' := [(5, .int a2), (4, .int x1), (0, .ref (oc.2.2 a0)), (1, .int a1), (2, .int a2), (3, .int a3)]) hx hb d_L1_indexOfChar_5 hl (by decide) rfl (fun ls hl => ?_)
  exact c_L1_indexOfChar_l7 C a0 a3 x1 a2 w (lv_sub hl [2, 5, 1, 0] rfl) hf hR hS
theorem c_L1_indexOfChar (l : Launch) (D : va_G) (cA : Nat → ClassId) (oc : gO) (B N : Nat) (a0 : Nat) (a1 : Int32) (a2 : Int32) (a3 : Int32) (w : gW) {wz : gW} {r : Int32} (hf : f_L1_indexOfChar N a0 a1 a2 a3 w = some (r, wz)) : Met l y_L1_indexOfChar (Cond.code y_L1_indexOfChar b_L1_indexOfChar 6 (some .int) :: lw_good) ({ frames := 1, cells := 0, slots := 0, locals := 40 } : Room) (gPre D cA oc B [.ref (oc.2.2 a0), .int a1, .int a2, .int a3] w) (gQi D cA B r wz) 0 0 (gA B) := by
  refine Met.ofW (cc := b_L1_indexOfChar) (maxL := 6) (ret := (some .int)) (by decide +kernel) rfl ?_
  intro p e s m args below meth c s₁ Bd hml hv
  obtain ⟨hargs, C, hR⟩ := gC.enter (l := l) rfl Bd hml hv
  subst hargs
  have hl := lv_entry ([.ref (oc.2.2 a0), .int a1, .int a2, .int a3]) (n := 6) (Nat.le_of_ble_eq_true rfl)
  rw [lg_entry_eq]
  generalize (lg_sl ([.ref (oc.2.2 a0), .int a1, .int a2, .int a3]) ++ List.replicate (6 - (lg_sl ([.ref (oc.2.2 a0), .int a1, .int a2, .int a3])).length) Slot.unset).toArray = ls at hl ⊢
  have hl : lv_has ls 6 [(0, .ref (oc.2.2 a0)), (1, .int a1), (2, .int a2), (3, .int a3)] := hl
  exact c_L1_indexOfChar_b0 C a0 a1 a2 a3 w (lv_sub hl [0, 1, 2, 3] rfl) hf hR va_S.rf
theorem d_L1_indexOf_0 : decode b_L1_indexOf 0 = .ok (.iload_n 1, 1) := by decide +kernel
theorem d_L1_indexOf_1 : decode b_L1_indexOf 1 = .ok (.invokestatic 88, 3) := by decide +kernel
theorem d_L1_indexOf_4 : decode b_L1_indexOf 4 = .ok (.ifCond .ne 5, 3) := by decide +kernel
theorem d_L1_indexOf_7 : decode b_L1_indexOf 7 = .ok (.iconst (-1), 1) := by decide +kernel
theorem d_L1_indexOf_8 : decode b_L1_indexOf 8 = .ok (.ireturn, 1) := by decide +kernel
theorem d_L1_indexOf_9 : decode b_L1_indexOf 9 = .ok (.iload_n 2, 1) := by decide +kernel
theorem d_L1_indexOf_10 : decode b_L1_indexOf 10 = .ok (.iconst 0, 1) := by decide +kernel
theorem d_L1_indexOf_11 : decode b_L1_indexOf 11 = .ok (.invokestatic 92, 3) := by decide +kernel
theorem d_L1_indexOf_14 : decode b_L1_indexOf 14 = .ok (.istore_n 2, 1) := by decide +kernel
theorem d_L1_indexOf_15 : decode b_L1_indexOf 15 = .ok (.iload_n 3, 1) := by decide +kernel
theorem d_L1_indexOf_16 : decode b_L1_indexOf 16 = .ok (.aload_n 0, 1) := by decide +kernel
theorem d_L1_indexOf_17 : decode b_L1_indexOf 17 = .ok (.arraylength, 1) := by decide +kernel
theorem d_L1_indexOf_18 : decode b_L1_indexOf 18 = .ok (.invokestatic 38, 3) := by decide +kernel
theorem d_L1_indexOf_21 : decode b_L1_indexOf 21 = .ok (.istore_n 3, 1) := by decide +kernel
theorem d_L1_indexOf_22 : decode b_L1_indexOf 22 = .ok (.iload_n 2, 1) := by decide +kernel
theorem d_L1_indexOf_23 : decode b_L1_indexOf 23 = .ok (.iload_n 3, 1) := by decide +kernel
theorem d_L1_indexOf_24 : decode b_L1_indexOf 24 = .ok (.if_icmp .lt 5, 3) := by decide +kernel
theorem d_L1_indexOf_27 : decode b_L1_indexOf 27 = .ok (.iconst (-1), 1) := by decide +kernel
theorem d_L1_indexOf_28 : decode b_L1_indexOf 28 = .ok (.ireturn, 1) := by decide +kernel
theorem d_L1_indexOf_29 : decode b_L1_indexOf 29 = .ok (.aload_n 0, 1) := by decide +kernel
theorem d_L1_indexOf_30 : decode b_L1_indexOf 30 = .ok (.iload_n 1, 1) := by decide +kernel
theorem d_L1_indexOf_31 : decode b_L1_indexOf 31 = .ok (.iload_n 2, 1) := by decide +kernel
theorem d_L1_indexOf_32 : decode b_L1_indexOf 32 = .ok (.iload_n 3, 1) := by decide +kernel
theorem d_L1_indexOf_33 : decode b_L1_indexOf 33 = .ok (.invokestatic 95, 3) := by decide +kernel
theorem d_L1_indexOf_36 : decode b_L1_indexOf 36 = .ok (.ireturn, 1) := by decide +kernel
set_option maxRecDepth 20000 in
theorem c_L1_indexOf_b0 {r : Int32} {wz : gW} (C : gC p s m args meth c "java/lang/StringLatin1" b_L1_indexOf 4 (some .int) D cA oc B) (a0 : Nat) (a1 : Int32) (a2 : Int32) (a3 : Int32) (w : gW) {ls : Array Slot} {H : Heap} {locs : List Loc} (hl : lv_has ls 4 [(0, .ref (oc.2.2 a0)), (1, .int a1), (2, .int a2), (3, .int a3)]) (hf : f_L1_indexOf_b0 N a0 a1 a2 a3 w = some (r, wz)) (hR : gRep D cA B w H) (hS : va_S (gA B) s.heap H locs) : W p l e ({ frames := 2, cells := 0, slots := 0, locals := 65 } : Room) s m args below meth c H locs 0 0 (MQ below (gQi D cA B r wz) args s 0 0 (gA B)) (F0 m 0 ls []) := by
  obtain ⟨hx, hb, hml, hown, hts, hr, hlocks, hK, hBs⟩ := id C
  unfold f_L1_indexOf_b0 at hf
  refine lv_iload_n hx hb d_L1_indexOf_0 rfl (lv_at hl 1 rfl) ?_
  have ⟨x1, w2, h3, hf⟩ := kl_e hf
  refine g_ki0 (g_rS (As := [.int a1]) (rest := []) hx hb hml hown hts hK hR hS (c_L1_canEncode l D cA oc B N a1 w h3) I_L1_canEncode m_546 rfl rfl (Nat.le_of_ble_eq_true rfl) hl.1 ⟨Nat.le_of_ble_eq_true rfl, Nat.le_of_ble_eq_true rfl⟩ ⟨Nat.le_of_ble_eq_true rfl, Nat.le_of_ble_eq_true rfl⟩ d_L1_indexOf_1) hS (fun H locs hR hS => ?_)
  refine lv_if_ne (tgt := 9) hx hb d_L1_indexOf_4 (by decide) (fun hc => ?_) (fun hc => ?_)
  · have hf := cd_f hc hf
    refine lv_iload_n hx hb d_L1_indexOf_9 rfl (lv_at hl 2 rfl) ?_
    refine lv_iconst (v := 0) hx hb d_L1_indexOf_10 (by decide) ?_
    refine va_mmax hx hb (hml.trans hl.1.symm) hown (hts _ m_549) (hts _ m_550) (hts _ m_18) (hts _ m_551) (Nat.le_of_ble_eq_true rfl) (Nat.le_of_ble_eq_true rfl) (Nat.zero_le _) (Nat.zero_le _) d_L1_indexOf_11 ?_
    refine g_nI hf (fun x4 hf => ?_)
    refine lv_istore_n (lv' := [(2, .int x4), (0, .ref (oc.2.2 a0)), (1, .int a1), (3, .int a3)]) hx hb d_L1_indexOf_14 rfl hl (by decide) rfl (fun ls hl => ?_)
    refine lv_iload_n hx hb d_L1_indexOf_15 rfl (lv_at hl 3 rfl) ?_
    refine lv_aload_n hx hb d_L1_indexOf_16 rfl (lv_at hl 1 rfl) ?_
    have ⟨h5, hf⟩ := gd_e hf
    refine g_sblen hx hb hK hS h5 d_L1_indexOf_17 ?_
    refine g_nI hf (fun x6 hf => ?_)
    refine va_mmin hx hb (hml.trans hl.1.symm) hown (hts _ m_552) (hts _ m_553) (hts _ m_18) (hts _ m_554) (Nat.le_of_ble_eq_true rfl) (Nat.le_of_ble_eq_true rfl) (Nat.zero_le _) (Nat.zero_le _) d_L1_indexOf_18 ?_
    refine g_nI hf (fun x7 hf => ?_)
    refine lv_istore_n (lv' := [(3, .int x7), (2, .int x4), (0, .ref (oc.2.2 a0)), (1, .int a1)]) hx hb d_L1_indexOf_21 rfl hl (by decide) rfl (fun ls hl => ?_)
    refine lv_iload_n hx hb d_L1_indexOf_22 rfl (lv_at hl 1 rfl) ?_
    refine lv_iload_n hx hb d_L1_indexOf_23 rfl (lv_at hl 0 rfl) ?_
    refine lv_icmp_lt (tgt := 29) hx hb d_L1_indexOf_24 (by decide) (fun hc => ?_) (fun hc => ?_)
    · have hf := cd_t hc hf
      refine lv_aload_n hx hb d_L1_indexOf_29 rfl (lv_at hl 2 rfl) ?_
      refine lv_iload_n hx hb d_L1_indexOf_30 rfl (lv_at hl 3 rfl) ?_
      refine lv_iload_n hx hb d_L1_indexOf_31 rfl (lv_at hl 1 rfl) ?_
      refine lv_iload_n hx hb d_L1_indexOf_32 rfl (lv_at hl 0 rfl) ?_
      have ⟨x8, w9, h10, hf⟩ := kl_e hf
      refine g_ki0 (g_rS (As := [.ref (oc.2.2 a0), .int a1, .int x4, .int x7]) (rest := []) hx hb hml hown hts hK hR hS (c_L1_indexOfChar l D cA oc B N a0 a1 x4 x7 w2 h10) I_L1_indexOfChar m_555 rfl rfl (Nat.le_of_ble_eq_true rfl) hl.1 ⟨Nat.le_of_ble_eq_true rfl, Nat.le_of_ble_eq_true rfl⟩ ⟨Nat.le_of_ble_eq_true rfl, Nat.le_of_ble_eq_true rfl⟩ d_L1_indexOf_33) hS (fun H locs hR hS => ?_)
      exact g_iret hx hb hr hlocks hR hS hf rfl d_L1_indexOf_36
    have hf := cd_f hc hf
    refine lv_iconst (v := (-1)) hx hb d_L1_indexOf_27 (by decide) ?_
    exact g_iret hx hb hr hlocks hR hS hf rfl d_L1_indexOf_28
  have hf := cd_t hc hf
  refine lv_iconst (v := (-1)) hx hb d_L1_indexOf_7 (by decide) ?_
  exact g_iret hx hb hr hlocks hR hS hf rfl d_L1_indexOf_8
theorem c_L1_indexOf (l : Launch) (D : va_G) (cA : Nat → ClassId) (oc : gO) (B N : Nat) (a0 : Nat) (a1 : Int32) (a2 : Int32) (a3 : Int32) (w : gW) {wz : gW} {r : Int32} (hf : f_L1_indexOf N a0 a1 a2 a3 w = some (r, wz)) : Met l y_L1_indexOf (Cond.code y_L1_indexOf b_L1_indexOf 4 (some .int) :: lw_good) ({ frames := 2, cells := 0, slots := 0, locals := 65 } : Room) (gPre D cA oc B [.ref (oc.2.2 a0), .int a1, .int a2, .int a3] w) (gQi D cA B r wz) 0 0 (gA B) := by
  refine Met.ofW (cc := b_L1_indexOf) (maxL := 4) (ret := (some .int)) (by decide +kernel) rfl ?_
  intro p e s m args below meth c s₁ Bd hml hv
  obtain ⟨hargs, C, hR⟩ := gC.enter (l := l) rfl Bd hml hv
  subst hargs
  have hl := lv_entry ([.ref (oc.2.2 a0), .int a1, .int a2, .int a3]) (n := 4) (Nat.le_of_ble_eq_true rfl)
  rw [lg_entry_eq]
  generalize (lg_sl ([.ref (oc.2.2 a0), .int a1, .int a2, .int a3]) ++ List.replicate (4 - (lg_sl ([.ref (oc.2.2 a0), .int a1, .int a2, .int a3])).length) Slot.unset).toArray = ls at hl ⊢
  have hl : lv_has ls 4 [(0, .ref (oc.2.2 a0)), (1, .int a1), (2, .int a2), (3, .int a3)] := hl
  exact c_L1_indexOf_b0 C a0 a1 a2 a3 w (lv_sub hl [0, 1, 2, 3] rfl) hf hR va_S.rf
theorem d_S_indexOfii_0 : decode b_S_indexOfii 0 = .ok (.aload_n 0, 1) := by decide +kernel
theorem d_S_indexOfii_1 : decode b_S_indexOfii 1 = .ok (.invokevirtual 492, 3) := by decide +kernel
theorem d_S_indexOfii_4 : decode b_S_indexOfii 4 = .ok (.ifCond .eq 19, 3) := by decide +kernel
theorem d_S_indexOfii_7 : decode b_S_indexOfii 7 = .ok (.aload_n 0, 1) := by decide +kernel
theorem d_S_indexOfii_8 : decode b_S_indexOfii 8 = .ok (.getfield 9, 3) := by decide +kernel
theorem d_S_indexOfii_11 : decode b_S_indexOfii 11 = .ok (.iload_n 1, 1) := by decide +kernel
theorem d_S_indexOfii_12 : decode b_S_indexOfii 12 = .ok (.iload_n 2, 1) := by decide +kernel
theorem d_S_indexOfii_13 : decode b_S_indexOfii 13 = .ok (.aload_n 0, 1) := by decide +kernel
theorem d_S_indexOfii_14 : decode b_S_indexOfii 14 = .ok (.invokevirtual 505, 3) := by decide +kernel
theorem d_S_indexOfii_17 : decode b_S_indexOfii 17 = .ok (.invokestatic 637, 3) := by decide +kernel
theorem d_S_indexOfii_20 : decode b_S_indexOfii 20 = .ok (.goto 16, 3) := by decide +kernel
theorem d_S_indexOfii_23 : decode b_S_indexOfii 23 = .ok (.aload_n 0, 1) := by decide +kernel
theorem d_S_indexOfii_24 : decode b_S_indexOfii 24 = .ok (.getfield 9, 3) := by decide +kernel
theorem d_S_indexOfii_27 : decode b_S_indexOfii 27 = .ok (.iload_n 1, 1) := by decide +kernel
theorem d_S_indexOfii_28 : decode b_S_indexOfii 28 = .ok (.iload_n 2, 1) := by decide +kernel
theorem d_S_indexOfii_29 : decode b_S_indexOfii 29 = .ok (.aload_n 0, 1) := by decide +kernel
theorem d_S_indexOfii_30 : decode b_S_indexOfii 30 = .ok (.invokevirtual 505, 3) := by decide +kernel
theorem d_S_indexOfii_33 : decode b_S_indexOfii 33 = .ok (.invokestatic 640, 3) := by decide +kernel
theorem d_S_indexOfii_36 : decode b_S_indexOfii 36 = .ok (.ireturn, 1) := by decide +kernel
set_option maxRecDepth 20000 in
theorem c_S_indexOfii_b0 {r : Int32} {wz : gW} (C : gC p s m args meth c "java/lang/String" b_S_indexOfii 3 (some .int) D cA oc B) (a0 : Nat) (a1 : Int32) (a2 : Int32) (w : gW) {ls : Array Slot} {H : Heap} {locs : List Loc} (hl : lv_has ls 3 [(0, .ref (oc.2.1 a0)), (1, .int a1), (2, .int a2)]) (hf : f_S_indexOfii_b0 N a0 a1 a2 w = some (r, wz)) (hR : gRep D cA B w H) (hS : va_S (gA B) s.heap H locs) : W p l e ({ frames := 3, cells := 0, slots := 0, locals := 88 } : Room) s m args below meth c H locs 0 0 (MQ below (gQi D cA B r wz) args s 0 0 (gA B)) (F0 m 0 ls []) := by
  obtain ⟨hx, hb, hml, hown, hts, hr, hlocks, hK, hBs⟩ := id C
  unfold f_S_indexOfii_b0 at hf
  refine lv_aload_n hx hb d_S_indexOfii_0 rfl (lv_at hl 0 rfl) ?_
  have ⟨h4, hf⟩ := gd_e hf
  have ⟨x1, w2, h3, hf⟩ := kl_e hf
  refine g_ki0 (g_rV (As := []) (rest := []) hx hb hml hown hts hK hR hS (c_S_isLatin1 l D cA oc B N a0 w h3) I_S_isLatin1 m_467 m_469 (gRecvS hK hS h4) rfl rfl (Nat.le_of_ble_eq_true rfl) hl.1 ⟨Nat.le_of_ble_eq_true rfl, Nat.le_of_ble_eq_true rfl⟩ ⟨Nat.le_of_ble_eq_true rfl, Nat.le_of_ble_eq_true rfl⟩ d_S_indexOfii_1) hS (fun H locs hR hS => ?_)
  refine lv_if_eq (tgt := 23) hx hb d_S_indexOfii_4 (by decide) (fun hc => ?_) (fun hc => ?_)
  · have hf := cd_t hc hf
    refine lv_aload_n hx hb d_S_indexOfii_23 rfl (lv_at hl 0 rfl) ?_
    refine g_strVal hx hb hts hown hK hS m_1582 h4 d_S_indexOfii_24 ?_
    refine lv_iload_n hx hb d_S_indexOfii_27 rfl (lv_at hl 1 rfl) ?_
    refine lv_iload_n hx hb d_S_indexOfii_28 rfl (lv_at hl 2 rfl) ?_
    refine lv_aload_n hx hb d_S_indexOfii_29 rfl (lv_at hl 0 rfl) ?_
    have ⟨x5, w6, h7, hf⟩ := kl_e hf
    refine g_ki0 (g_rV (As := []) (rest := [.int a2, .int a1, .ref (oc.2.2 a0)]) hx hb hml hown hts hK hR hS (c_S_length l D cA oc B N a0 w2 h7) I_S_length m_542 m_455 (gRecvS hK hS h4) rfl rfl (Nat.le_of_ble_eq_true rfl) hl.1 ⟨Nat.le_of_ble_eq_true rfl, Nat.le_of_ble_eq_true rfl⟩ ⟨Nat.le_of_ble_eq_true rfl, Nat.le_of_ble_eq_true rfl⟩ d_S_indexOfii_30) hS (fun H locs hR hS => ?_)
    cases hf
  have hf := cd_f hc hf
  refine lv_aload_n hx hb d_S_indexOfii_7 rfl (lv_at hl 0 rfl) ?_
  refine g_strVal hx hb hts hown hK hS m_1582 h4 d_S_indexOfii_8 ?_
  refine lv_iload_n hx hb d_S_indexOfii_11 rfl (lv_at hl 1 rfl) ?_
  refine lv_iload_n hx hb d_S_indexOfii_12 rfl (lv_at hl 2 rfl) ?_
  refine lv_aload_n hx hb d_S_indexOfii_13 rfl (lv_at hl 0 rfl) ?_
  have ⟨x8, w9, h10, hf⟩ := kl_e hf
  refine g_ki0 (g_rV (As := []) (rest := [.int a2, .int a1, .ref (oc.2.2 a0)]) hx hb hml hown hts hK hR hS (c_S_length l D cA oc B N a0 w2 h10) I_S_length m_542 m_455 (gRecvS hK hS h4) rfl rfl (Nat.le_of_ble_eq_true rfl) hl.1 ⟨Nat.le_of_ble_eq_true rfl, Nat.le_of_ble_eq_true rfl⟩ ⟨Nat.le_of_ble_eq_true rfl, Nat.le_of_ble_eq_true rfl⟩ d_S_indexOfii_14) hS (fun H locs hR hS => ?_)
  have ⟨x11, w12, h13, hf⟩ := kl_e hf
  refine g_ki0 (g_rS (As := [.ref (oc.2.2 a0), .int a1, .int a2, .int x8]) (rest := []) hx hb hml hown hts hK hR hS (c_L1_indexOf l D cA oc B N a0 a1 a2 x8 w9 h13) I_L1_indexOf m_543 rfl rfl (Nat.le_of_ble_eq_true rfl) hl.1 ⟨Nat.le_of_ble_eq_true rfl, Nat.le_of_ble_eq_true rfl⟩ ⟨Nat.le_of_ble_eq_true rfl, Nat.le_of_ble_eq_true rfl⟩ d_S_indexOfii_17) hS (fun H locs hR hS => ?_)
  refine lv_goto (tgt := 36) hx hb d_S_indexOfii_20 (by decide) ?_
  exact g_iret hx hb hr hlocks hR hS hf rfl d_S_indexOfii_36
theorem c_S_indexOfii (l : Launch) (D : va_G) (cA : Nat → ClassId) (oc : gO) (B N : Nat) (a0 : Nat) (a1 : Int32) (a2 : Int32) (w : gW) {wz : gW} {r : Int32} (hf : f_S_indexOfii N a0 a1 a2 w = some (r, wz)) : Met l y_S_indexOfii (Cond.code y_S_indexOfii b_S_indexOfii 3 (some .int) :: lw_good) ({ frames := 3, cells := 0, slots := 0, locals := 88 } : Room) (gPre D cA oc B [.ref (oc.2.1 a0), .int a1, .int a2] w) (gQi D cA B r wz) 0 0 (gA B) := by
  refine Met.ofW (cc := b_S_indexOfii) (maxL := 3) (ret := (some .int)) (by decide +kernel) rfl ?_
  intro p e s m args below meth c s₁ Bd hml hv
  obtain ⟨hargs, C, hR⟩ := gC.enter (l := l) rfl Bd hml hv
  subst hargs
  have hl := lv_entry ([.ref (oc.2.1 a0), .int a1, .int a2]) (n := 3) (Nat.le_of_ble_eq_true rfl)
  rw [lg_entry_eq]
  generalize (lg_sl ([.ref (oc.2.1 a0), .int a1, .int a2]) ++ List.replicate (3 - (lg_sl ([.ref (oc.2.1 a0), .int a1, .int a2])).length) Slot.unset).toArray = ls at hl ⊢
  have hl : lv_has ls 3 [(0, .ref (oc.2.1 a0)), (1, .int a1), (2, .int a2)] := hl
  exact c_S_indexOfii_b0 C a0 a1 a2 w (lv_sub hl [0, 1, 2] rfl) hf hR va_S.rf
theorem d_S_indexOfi_0 : decode b_S_indexOfi 0 = .ok (.aload_n 0, 1) := by decide +kernel
theorem d_S_indexOfi_1 : decode b_S_indexOfi 1 = .ok (.iload_n 1, 1) := by decide +kernel
theorem d_S_indexOfi_2 : decode b_S_indexOfi 2 = .ok (.iconst 0, 1) := by decide +kernel
theorem d_S_indexOfi_3 : decode b_S_indexOfi 3 = .ok (.invokevirtual 633, 3) := by decide +kernel
theorem d_S_indexOfi_6 : decode b_S_indexOfi 6 = .ok (.ireturn, 1) := by decide +kernel
set_option maxRecDepth 20000 in
theorem c_S_indexOfi_b0 {r : Int32} {wz : gW} (C : gC p s m args meth c "java/lang/String" b_S_indexOfi 2 (some .int) D cA oc B) (a0 : Nat) (a1 : Int32) (w : gW) {ls : Array Slot} {H : Heap} {locs : List Loc} (hl : lv_has ls 2 [(0, .ref (oc.2.1 a0)), (1, .int a1)]) (hf : f_S_indexOfi_b0 N a0 a1 w = some (r, wz)) (hR : gRep D cA B w H) (hS : va_S (gA B) s.heap H locs) : W p l e ({ frames := 4, cells := 0, slots := 0, locals := 110 } : Room) s m args below meth c H locs 0 0 (MQ below (gQi D cA B r wz) args s 0 0 (gA B)) (F0 m 0 ls []) := by
  obtain ⟨hx, hb, hml, hown, hts, hr, hlocks, hK, hBs⟩ := id C
  unfold f_S_indexOfi_b0 at hf
  refine lv_aload_n hx hb d_S_indexOfi_0 rfl (lv_at hl 0 rfl) ?_
  refine lv_iload_n hx hb d_S_indexOfi_1 rfl (lv_at hl 1 rfl) ?_
  refine lv_iconst (v := 0) hx hb d_S_indexOfi_2 (by decide) ?_
  have ⟨h4, hf⟩ := gd_e hf
  have ⟨x1, w2, h3, hf⟩ := kl_e hf
  refine g_ki0 (g_rV (As := [.int a1, .int 0]) (rest := []) hx hb hml hown hts hK hR hS (c_S_indexOfii l D cA oc B N a0 a1 0 w h3) I_S_indexOfii m_538 m_540 (gRecvS hK hS h4) rfl rfl (Nat.le_of_ble_eq_true rfl) hl.1 ⟨Nat.le_of_ble_eq_true rfl, Nat.le_of_ble_eq_true rfl⟩ ⟨Nat.le_of_ble_eq_true rfl, Nat.le_of_ble_eq_true rfl⟩ d_S_indexOfi_3) hS (fun H locs hR hS => ?_)
  exact g_iret hx hb hr hlocks hR hS hf rfl d_S_indexOfi_6
theorem c_S_indexOfi (l : Launch) (D : va_G) (cA : Nat → ClassId) (oc : gO) (B N : Nat) (a0 : Nat) (a1 : Int32) (w : gW) {wz : gW} {r : Int32} (hf : f_S_indexOfi N a0 a1 w = some (r, wz)) : Met l y_S_indexOfi (Cond.code y_S_indexOfi b_S_indexOfi 2 (some .int) :: lw_good) ({ frames := 4, cells := 0, slots := 0, locals := 110 } : Room) (gPre D cA oc B [.ref (oc.2.1 a0), .int a1] w) (gQi D cA B r wz) 0 0 (gA B) := by
  refine Met.ofW (cc := b_S_indexOfi) (maxL := 2) (ret := (some .int)) (by decide +kernel) rfl ?_
  intro p e s m args below meth c s₁ Bd hml hv
  obtain ⟨hargs, C, hR⟩ := gC.enter (l := l) rfl Bd hml hv
  subst hargs
  have hl := lv_entry ([.ref (oc.2.1 a0), .int a1]) (n := 2) (Nat.le_of_ble_eq_true rfl)
  rw [lg_entry_eq]
  generalize (lg_sl ([.ref (oc.2.1 a0), .int a1]) ++ List.replicate (2 - (lg_sl ([.ref (oc.2.1 a0), .int a1])).length) Slot.unset).toArray = ls at hl ⊢
  have hl : lv_has ls 2 [(0, .ref (oc.2.1 a0)), (1, .int a1)] := hl
  exact c_S_indexOfi_b0 C a0 a1 w (lv_sub hl [0, 1] rfl) hf hR va_S.rf
theorem d_Pc_checkIndex_0 : decode b_Pc_checkIndex 0 = .ok (.iload_n 0, 1) := by decide +kernel
theorem d_Pc_checkIndex_1 : decode b_Pc_checkIndex 1 = .ok (.ifCond .lt 8, 3) := by decide +kernel
theorem d_Pc_checkIndex_4 : decode b_Pc_checkIndex 4 = .ok (.iload_n 0, 1) := by decide +kernel
theorem d_Pc_checkIndex_5 : decode b_Pc_checkIndex 5 = .ok (.iload_n 1, 1) := by decide +kernel
theorem d_Pc_checkIndex_6 : decode b_Pc_checkIndex 6 = .ok (.if_icmp .lt 10, 3) := by decide +kernel
theorem d_Pc_checkIndex_16 : decode b_Pc_checkIndex 16 = .ok (.iload_n 0, 1) := by decide +kernel
theorem d_Pc_checkIndex_17 : decode b_Pc_checkIndex 17 = .ok (.ireturn, 1) := by decide +kernel
set_option maxRecDepth 20000 in
theorem c_Pc_checkIndex_b9 {r : Int32} {wz : gW} (C : gC p s m args meth c "jdk/internal/util/Preconditions" b_Pc_checkIndex 3 (some .int) D cA oc B) (a0 : Int32) (a1 : Int32) (w : gW) {ls : Array Slot} {H : Heap} {locs : List Loc} (hl : lv_has ls 3 [(0, .int a0), (1, .int a1)]) (hf : f_Pc_checkIndex_b9 N a0 a1 w = some (r, wz)) (hR : gRep D cA B w H) (hS : va_S (gA B) s.heap H locs) : W p l e ({ frames := 1, cells := 0, slots := 0, locals := 40 } : Room) s m args below meth c H locs 0 0 (MQ below (gQi D cA B r wz) args s 0 0 (gA B)) (F0 m 9 ls []) := by
  obtain ⟨hx, hb, hml, hown, hts, hr, hlocks, hK, hBs⟩ := id C
  unfold f_Pc_checkIndex_b9 at hf
  cases hf
set_option maxRecDepth 20000 in
theorem c_Pc_checkIndex_b0 {r : Int32} {wz : gW} (C : gC p s m args meth c "jdk/internal/util/Preconditions" b_Pc_checkIndex 3 (some .int) D cA oc B) (a0 : Int32) (a1 : Int32) (w : gW) {ls : Array Slot} {H : Heap} {locs : List Loc} (hl : lv_has ls 3 [(0, .int a0), (1, .int a1)]) (hf : f_Pc_checkIndex_b0 N a0 a1 w = some (r, wz)) (hR : gRep D cA B w H) (hS : va_S (gA B) s.heap H locs) : W p l e ({ frames := 1, cells := 0, slots := 0, locals := 40 } : Room) s m args below meth c H locs 0 0 (MQ below (gQi D cA B r wz) args s 0 0 (gA B)) (F0 m 0 ls []) := by
  obtain ⟨hx, hb, hml, hown, hts, hr, hlocks, hK, hBs⟩ := id C
  unfold f_Pc_checkIndex_b0 at hf
  refine lv_iload_n hx hb d_Pc_checkIndex_0 rfl (lv_at hl 0 rfl) ?_
  refine lv_if_lt (tgt := 9) hx hb d_Pc_checkIndex_1 (by decide) (fun hc => ?_) (fun hc => ?_)
  · have hf := cd_t hc hf
    exact c_Pc_checkIndex_b9 C a0 a1 w (lv_sub hl [0, 1] rfl) hf hR hS
  have hf := cd_f hc hf
  refine lv_iload_n hx hb d_Pc_checkIndex_4 rfl (lv_at hl 0 rfl) ?_
  refine lv_iload_n hx hb d_Pc_checkIndex_5 rfl (lv_at hl 1 rfl) ?_
  refine lv_icmp_lt (tgt := 16) hx hb d_Pc_checkIndex_6 (by decide) (fun hc => ?_) (fun hc => ?_)
  · have hf := cd_t hc hf
    refine lv_iload_n hx hb d_Pc_checkIndex_16 rfl (lv_at hl 0 rfl) ?_
    exact g_iret hx hb hr hlocks hR hS hf rfl d_Pc_checkIndex_17
  have hf := cd_f hc hf
  exact c_Pc_checkIndex_b9 C a0 a1 w (lv_sub hl [0, 1] rfl) hf hR hS
theorem c_Pc_checkIndex (l : Launch) (D : va_G) (cA : Nat → ClassId) (oc : gO) (B N : Nat) (a0 : Int32) (a1 : Int32) (a2 : Option Nat) (w : gW) {wz : gW} {r : Int32} (hf : f_Pc_checkIndex N a0 a1 w = some (r, wz)) : Met l y_Pc_checkIndex (Cond.code y_Pc_checkIndex b_Pc_checkIndex 3 (some .int) :: lw_good) ({ frames := 1, cells := 0, slots := 0, locals := 40 } : Room) (gPre D cA oc B [.int a0, .int a1, va_rf a2] w) (gQi D cA B r wz) 0 0 (gA B) := by
  cases a2 with
  | none =>
    refine Met.ofW (cc := b_Pc_checkIndex) (maxL := 3) (ret := (some .int)) (by decide +kernel) rfl ?_
    intro p e s m args below meth c s₁ Bd hml hv
    have hv : gPre D cA oc B [.int a0, .int a1, .null] w args s := hv
    obtain ⟨hargs, C, hR⟩ := gC.enter (l := l) rfl Bd hml hv
    subst hargs
    have hl := lv_entry ([.int a0, .int a1, .null]) (n := 3) (Nat.le_of_ble_eq_true rfl)
    rw [lg_entry_eq]
    generalize (lg_sl ([.int a0, .int a1, .null]) ++ List.replicate (3 - (lg_sl ([.int a0, .int a1, .null])).length) Slot.unset).toArray = ls at hl ⊢
    have hl : lv_has ls 3 [(0, .int a0), (1, .int a1), (2, .null)] := hl
    exact c_Pc_checkIndex_b0 C a0 a1 w (lv_sub hl [0, 1] rfl) hf hR va_S.rf
  | some a2 =>
    refine Met.ofW (cc := b_Pc_checkIndex) (maxL := 3) (ret := (some .int)) (by decide +kernel) rfl ?_
    intro p e s m args below meth c s₁ Bd hml hv
    have hv : gPre D cA oc B [.int a0, .int a1, .ref a2] w args s := hv
    obtain ⟨hargs, C, hR⟩ := gC.enter (l := l) rfl Bd hml hv
    subst hargs
    have hl := lv_entry ([.int a0, .int a1, .ref a2]) (n := 3) (Nat.le_of_ble_eq_true rfl)
    rw [lg_entry_eq]
    generalize (lg_sl ([.int a0, .int a1, .ref a2]) ++ List.replicate (3 - (lg_sl ([.int a0, .int a1, .ref a2])).length) Slot.unset).toArray = ls at hl ⊢
    have hl : lv_has ls 3 [(0, .int a0), (1, .int a1), (2, .ref a2)] := hl
    exact c_Pc_checkIndex_b0 C a0 a1 w (lv_sub hl [0, 1] rfl) hf hR va_S.rf
theorem d_S_checkIndex_0 : decode b_S_checkIndex 0 = .ok (.iload_n 0, 1) := by decide +kernel
theorem d_S_checkIndex_1 : decode b_S_checkIndex 1 = .ok (.iload_n 1, 1) := by decide +kernel
theorem d_S_checkIndex_2 : decode b_S_checkIndex 2 = .ok (.getstatic 1053, 3) := by decide +kernel
theorem d_S_checkIndex_5 : decode b_S_checkIndex 5 = .ok (.invokestatic 1059, 3) := by decide +kernel
theorem d_S_checkIndex_8 : decode b_S_checkIndex 8 = .ok (.pop, 1) := by decide +kernel
theorem d_S_checkIndex_9 : decode b_S_checkIndex 9 = .ok (.return_, 1) := by decide +kernel
set_option maxRecDepth 20000 in
theorem c_S_checkIndex_b0 {r : Unit} {wz : gW} (C : gC p s m args meth c "java/lang/String" b_S_checkIndex 2 none D cA oc B) (a0 : Int32) (a1 : Int32) (w : gW) {ls : Array Slot} {H : Heap} {locs : List Loc} (hl : lv_has ls 2 [(0, .int a0), (1, .int a1)]) (hf : f_S_checkIndex_b0 N a0 a1 w = some (r, wz)) (hR : gRep D cA B w H) (hS : va_S (gA B) s.heap H locs) : W p l e ({ frames := 2, cells := 0, slots := 0, locals := 62 } : Room) s m args below meth c H locs 0 0 (MQ below (gQv D cA B r wz) args s 0 0 (gA B)) (F0 m 0 ls []) := by
  obtain ⟨hx, hb, hml, hown, hts, hr, hlocks, hK, hBs⟩ := id C
  unfold f_S_checkIndex_b0 at hf
  refine lv_iload_n hx hb d_S_checkIndex_0 rfl (lv_at hl 0 rfl) ?_
  refine lv_iload_n hx hb d_S_checkIndex_1 rfl (lv_at hl 1 rfl) ?_
  refine g_sioobe hx hb hts hown hK hS m_477 d_S_checkIndex_2 (fun v1 => ?_)
  have ⟨x2, w3, h4, hf⟩ := kl_e hf
  refine g_ki0 (g_rS (As := [.int a0, .int a1, va_rf v1]) (rest := []) hx hb hml hown hts hK hR hS (c_Pc_checkIndex l D cA oc B N a0 a1 v1 w h4) I_Pc_checkIndex m_479 rfl rfl (Nat.le_of_ble_eq_true rfl) hl.1 ⟨Nat.le_of_ble_eq_true rfl, Nat.le_of_ble_eq_true rfl⟩ ⟨Nat.le_of_ble_eq_true rfl, Nat.le_of_ble_eq_true rfl⟩ d_S_checkIndex_5) hS (fun H locs hR hS => ?_)
  refine lv_pop hx hb d_S_checkIndex_8 rfl ?_
  exact g_vret hx hb hr hlocks hR hS hf d_S_checkIndex_9
theorem c_S_checkIndex (l : Launch) (D : va_G) (cA : Nat → ClassId) (oc : gO) (B N : Nat) (a0 : Int32) (a1 : Int32) (w : gW) {wz : gW} {r : Unit} (hf : f_S_checkIndex N a0 a1 w = some (r, wz)) : Met l y_S_checkIndex (Cond.code y_S_checkIndex b_S_checkIndex 2 none :: lw_good) ({ frames := 2, cells := 0, slots := 0, locals := 62 } : Room) (gPre D cA oc B [.int a0, .int a1] w) (gQv D cA B r wz) 0 0 (gA B) := by
  refine Met.ofW (cc := b_S_checkIndex) (maxL := 2) (ret := none) (by decide +kernel) rfl ?_
  intro p e s m args below meth c s₁ Bd hml hv
  obtain ⟨hargs, C, hR⟩ := gC.enter (l := l) rfl Bd hml hv
  subst hargs
  have hl := lv_entry ([.int a0, .int a1]) (n := 2) (Nat.le_of_ble_eq_true rfl)
  rw [lg_entry_eq]
  generalize (lg_sl ([.int a0, .int a1]) ++ List.replicate (2 - (lg_sl ([.int a0, .int a1])).length) Slot.unset).toArray = ls at hl ⊢
  have hl : lv_has ls 2 [(0, .int a0), (1, .int a1)] := hl
  exact c_S_checkIndex_b0 C a0 a1 w (lv_sub hl [0, 1] rfl) hf hR va_S.rf
theorem d_L1_charAt_0 : decode b_L1_charAt 0 = .ok (.iload_n 1, 1) := by decide +kernel
theorem d_L1_charAt_1 : decode b_L1_charAt 1 = .ok (.aload_n 0, 1) := by decide +kernel
theorem d_L1_charAt_2 : decode b_L1_charAt 2 = .ok (.arraylength, 1) := by decide +kernel
theorem d_L1_charAt_3 : decode b_L1_charAt 3 = .ok (.invokestatic 9, 3) := by decide +kernel
theorem d_L1_charAt_6 : decode b_L1_charAt 6 = .ok (.aload_n 0, 1) := by decide +kernel
theorem d_L1_charAt_7 : decode b_L1_charAt 7 = .ok (.iload_n 1, 1) := by decide +kernel
theorem d_L1_charAt_8 : decode b_L1_charAt 8 = .ok (.baload, 1) := by decide +kernel
theorem d_L1_charAt_9 : decode b_L1_charAt 9 = .ok (.sipush 255, 3) := by decide +kernel
theorem d_L1_charAt_12 : decode b_L1_charAt 12 = .ok (.iand, 1) := by decide +kernel
theorem d_L1_charAt_13 : decode b_L1_charAt 13 = .ok (.i2c, 1) := by decide +kernel
theorem d_L1_charAt_14 : decode b_L1_charAt 14 = .ok (.ireturn, 1) := by decide +kernel
set_option maxRecDepth 20000 in
theorem c_L1_charAt_b0 {r : Int32} {wz : gW} (C : gC p s m args meth c "java/lang/StringLatin1" b_L1_charAt 2 (some .char) D cA oc B) (a0 : Nat) (a1 : Int32) (w : gW) {ls : Array Slot} {H : Heap} {locs : List Loc} (hl : lv_has ls 2 [(0, .ref (oc.2.2 a0)), (1, .int a1)]) (hf : f_L1_charAt_b0 N a0 a1 w = some (r, wz)) (hR : gRep D cA B w H) (hS : va_S (gA B) s.heap H locs) : W p l e ({ frames := 3, cells := 0, slots := 0, locals := 83 } : Room) s m args below meth c H locs 0 0 (MQ below (gQi D cA B r wz) args s 0 0 (gA B)) (F0 m 0 ls []) := by
  obtain ⟨hx, hb, hml, hown, hts, hr, hlocks, hK, hBs⟩ := id C
  unfold f_L1_charAt_b0 at hf
  refine lv_iload_n hx hb d_L1_charAt_0 rfl (lv_at hl 1 rfl) ?_
  refine lv_aload_n hx hb d_L1_charAt_1 rfl (lv_at hl 0 rfl) ?_
  have ⟨h1, hf⟩ := gd_e hf
  refine g_sblen hx hb hK hS h1 d_L1_charAt_2 ?_
  refine g_nI hf (fun x2 hf => ?_)
  have ⟨x3, w4, h5, hf⟩ := kl_e hf
  refine g_kv0 (g_rS (As := [.int a1, .int x2]) (rest := []) hx hb hml hown hts hK hR hS (c_S_checkIndex l D cA oc B N a1 x2 w h5) I_S_checkIndex m_474 rfl rfl (Nat.le_of_ble_eq_true rfl) hl.1 ⟨Nat.le_of_ble_eq_true rfl, Nat.le_of_ble_eq_true rfl⟩ ⟨Nat.le_of_ble_eq_true rfl, Nat.le_of_ble_eq_true rfl⟩ d_L1_charAt_3) hS (fun H locs hR hS => ?_)
  refine lv_aload_n hx hb d_L1_charAt_6 rfl (lv_at hl 0 rfl) ?_
  refine lv_iload_n hx hb d_L1_charAt_7 rfl (lv_at hl 1 rfl) ?_
  have ⟨h6, hf⟩ := gd_e hf
  refine g_sbald hx hb hK hS h1 h6 d_L1_charAt_8 ?_
  refine g_nI hf (fun x7 hf => ?_)
  refine lv_sipush (v := 255) hx hb d_L1_charAt_9 (by decide) ?_
  refine lv_iand hx hb d_L1_charAt_12 ?_
  refine g_nI hf (fun x8 hf => ?_)
  refine lv_i2c hx hb d_L1_charAt_13 rfl ?_
  refine g_nI hf (fun x9 hf => ?_)
  have ⟨h10, hf⟩ := gd_e hf
  exact g_iret hx hb hr hlocks hR hS hf h10 d_L1_charAt_14
theorem c_L1_charAt (l : Launch) (D : va_G) (cA : Nat → ClassId) (oc : gO) (B N : Nat) (a0 : Nat) (a1 : Int32) (w : gW) {wz : gW} {r : Int32} (hf : f_L1_charAt N a0 a1 w = some (r, wz)) : Met l y_L1_charAt (Cond.code y_L1_charAt b_L1_charAt 2 (some .char) :: lw_good) ({ frames := 3, cells := 0, slots := 0, locals := 83 } : Room) (gPre D cA oc B [.ref (oc.2.2 a0), .int a1] w) (gQi D cA B r wz) 0 0 (gA B) := by
  refine Met.ofW (cc := b_L1_charAt) (maxL := 2) (ret := (some .char)) (by decide +kernel) rfl ?_
  intro p e s m args below meth c s₁ Bd hml hv
  obtain ⟨hargs, C, hR⟩ := gC.enter (l := l) rfl Bd hml hv
  subst hargs
  have hl := lv_entry ([.ref (oc.2.2 a0), .int a1]) (n := 2) (Nat.le_of_ble_eq_true rfl)
  rw [lg_entry_eq]
  generalize (lg_sl ([.ref (oc.2.2 a0), .int a1]) ++ List.replicate (2 - (lg_sl ([.ref (oc.2.2 a0), .int a1])).length) Slot.unset).toArray = ls at hl ⊢
  have hl : lv_has ls 2 [(0, .ref (oc.2.2 a0)), (1, .int a1)] := hl
  exact c_L1_charAt_b0 C a0 a1 w (lv_sub hl [0, 1] rfl) hf hR va_S.rf
theorem d_S_charAt_0 : decode b_S_charAt 0 = .ok (.aload_n 0, 1) := by decide +kernel
theorem d_S_charAt_1 : decode b_S_charAt 1 = .ok (.invokevirtual 492, 3) := by decide +kernel
theorem d_S_charAt_4 : decode b_S_charAt 4 = .ok (.ifCond .eq 12, 3) := by decide +kernel
theorem d_S_charAt_7 : decode b_S_charAt 7 = .ok (.aload_n 0, 1) := by decide +kernel
theorem d_S_charAt_8 : decode b_S_charAt 8 = .ok (.getfield 9, 3) := by decide +kernel
theorem d_S_charAt_11 : decode b_S_charAt 11 = .ok (.iload_n 1, 1) := by decide +kernel
theorem d_S_charAt_12 : decode b_S_charAt 12 = .ok (.invokestatic 495, 3) := by decide +kernel
theorem d_S_charAt_15 : decode b_S_charAt 15 = .ok (.ireturn, 1) := by decide +kernel
theorem d_S_charAt_16 : decode b_S_charAt 16 = .ok (.aload_n 0, 1) := by decide +kernel
theorem d_S_charAt_17 : decode b_S_charAt 17 = .ok (.getfield 9, 3) := by decide +kernel
theorem d_S_charAt_20 : decode b_S_charAt 20 = .ok (.iload_n 1, 1) := by decide +kernel
theorem d_S_charAt_21 : decode b_S_charAt 21 = .ok (.invokestatic 498, 3) := by decide +kernel
set_option maxRecDepth 20000 in
theorem c_S_charAt_b0 {r : Int32} {wz : gW} (C : gC p s m args meth c "java/lang/String" b_S_charAt 2 (some .char) D cA oc B) (a0 : Nat) (a1 : Int32) (w : gW) {ls : Array Slot} {H : Heap} {locs : List Loc} (hl : lv_has ls 2 [(0, .ref (oc.2.1 a0)), (1, .int a1)]) (hf : f_S_charAt_b0 N a0 a1 w = some (r, wz)) (hR : gRep D cA B w H) (hS : va_S (gA B) s.heap H locs) : W p l e ({ frames := 4, cells := 0, slots := 0, locals := 104 } : Room) s m args below meth c H locs 0 0 (MQ below (gQi D cA B r wz) args s 0 0 (gA B)) (F0 m 0 ls []) := by
  obtain ⟨hx, hb, hml, hown, hts, hr, hlocks, hK, hBs⟩ := id C
  unfold f_S_charAt_b0 at hf
  refine lv_aload_n hx hb d_S_charAt_0 rfl (lv_at hl 0 rfl) ?_
  have ⟨h4, hf⟩ := gd_e hf
  have ⟨x1, w2, h3, hf⟩ := kl_e hf
  refine g_ki0 (g_rV (As := []) (rest := []) hx hb hml hown hts hK hR hS (c_S_isLatin1 l D cA oc B N a0 w h3) I_S_isLatin1 m_467 m_469 (gRecvS hK hS h4) rfl rfl (Nat.le_of_ble_eq_true rfl) hl.1 ⟨Nat.le_of_ble_eq_true rfl, Nat.le_of_ble_eq_true rfl⟩ ⟨Nat.le_of_ble_eq_true rfl, Nat.le_of_ble_eq_true rfl⟩ d_S_charAt_1) hS (fun H locs hR hS => ?_)
  refine lv_if_eq (tgt := 16) hx hb d_S_charAt_4 (by decide) (fun hc => ?_) (fun hc => ?_)
  · have hf := cd_t hc hf
    refine lv_aload_n hx hb d_S_charAt_16 rfl (lv_at hl 0 rfl) ?_
    refine g_strVal hx hb hts hown hK hS m_1582 h4 d_S_charAt_17 ?_
    refine lv_iload_n hx hb d_S_charAt_20 rfl (lv_at hl 1 rfl) ?_
    cases hf
  have hf := cd_f hc hf
  refine lv_aload_n hx hb d_S_charAt_7 rfl (lv_at hl 0 rfl) ?_
  refine g_strVal hx hb hts hown hK hS m_1582 h4 d_S_charAt_8 ?_
  refine lv_iload_n hx hb d_S_charAt_11 rfl (lv_at hl 1 rfl) ?_
  have ⟨x5, w6, h7, hf⟩ := kl_e hf
  refine g_ki0 (g_rS (As := [.ref (oc.2.2 a0), .int a1]) (rest := []) hx hb hml hown hts hK hR hS (c_L1_charAt l D cA oc B N a0 a1 w2 h7) I_L1_charAt m_471 rfl rfl (Nat.le_of_ble_eq_true rfl) hl.1 ⟨Nat.le_of_ble_eq_true rfl, Nat.le_of_ble_eq_true rfl⟩ ⟨Nat.le_of_ble_eq_true rfl, Nat.le_of_ble_eq_true rfl⟩ d_S_charAt_12) hS (fun H locs hR hS => ?_)
  have ⟨h8, hf⟩ := gd_e hf
  exact g_iret hx hb hr hlocks hR hS hf h8 d_S_charAt_15
theorem c_S_charAt (l : Launch) (D : va_G) (cA : Nat → ClassId) (oc : gO) (B N : Nat) (a0 : Nat) (a1 : Int32) (w : gW) {wz : gW} {r : Int32} (hf : f_S_charAt N a0 a1 w = some (r, wz)) : Met l y_S_charAt (Cond.code y_S_charAt b_S_charAt 2 (some .char) :: lw_good) ({ frames := 4, cells := 0, slots := 0, locals := 104 } : Room) (gPre D cA oc B [.ref (oc.2.1 a0), .int a1] w) (gQi D cA B r wz) 0 0 (gA B) := by
  refine Met.ofW (cc := b_S_charAt) (maxL := 2) (ret := (some .char)) (by decide +kernel) rfl ?_
  intro p e s m args below meth c s₁ Bd hml hv
  obtain ⟨hargs, C, hR⟩ := gC.enter (l := l) rfl Bd hml hv
  subst hargs
  have hl := lv_entry ([.ref (oc.2.1 a0), .int a1]) (n := 2) (Nat.le_of_ble_eq_true rfl)
  rw [lg_entry_eq]
  generalize (lg_sl ([.ref (oc.2.1 a0), .int a1]) ++ List.replicate (2 - (lg_sl ([.ref (oc.2.1 a0), .int a1])).length) Slot.unset).toArray = ls at hl ⊢
  have hl : lv_has ls 2 [(0, .ref (oc.2.1 a0)), (1, .int a1)] := hl
  exact c_S_charAt_b0 C a0 a1 w (lv_sub hl [0, 1] rfl) hf hR va_S.rf
