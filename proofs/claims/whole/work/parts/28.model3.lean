variable {p : Program} {l : Launch} {e : Env} {s : State} {m : MethodId} {args : Array Value} {below : List Frame} {meth : Method} {c : Code} {D : va_G} {cA : Nat → ClassId} {oc : gO} {B N : Nat}
theorem d_M_more_0 : decode b_M_more 0 = .ok (.aload_n 0, 1) := by decide +kernel
theorem d_M_more_1 : decode b_M_more 1 = .ok (.iload_n 1, 1) := by decide +kernel
theorem d_M_more_2 : decode b_M_more 2 = .ok (.invokevirtual 234, 3) := by decide +kernel
theorem d_M_more_5 : decode b_M_more 5 = .ok (.ifCond .eq 11, 3) := by decide +kernel
theorem d_M_more_8 : decode b_M_more 8 = .ok (.aload_n 0, 1) := by decide +kernel
theorem d_M_more_9 : decode b_M_more 9 = .ok (.iload_n 3, 1) := by decide +kernel
theorem d_M_more_10 : decode b_M_more 10 = .ok (.invokevirtual 238, 3) := by decide +kernel
theorem d_M_more_13 : decode b_M_more 13 = .ok (.ifCond .ne 7, 3) := by decide +kernel
theorem d_M_more_16 : decode b_M_more 16 = .ok (.ldc_w 372, 3) := by decide +kernel
theorem d_M_more_19 : decode b_M_more 19 = .ok (.ireturn, 1) := by decide +kernel
theorem d_M_more_20 : decode b_M_more 20 = .ok (.aload_n 0, 1) := by decide +kernel
theorem d_M_more_21 : decode b_M_more 21 = .ok (.iload_n 2, 1) := by decide +kernel
theorem d_M_more_22 : decode b_M_more 22 = .ok (.invokevirtual 348, 3) := by decide +kernel
theorem d_M_more_25 : decode b_M_more 25 = .ok (.ifCond .ne 7, 3) := by decide +kernel
theorem d_M_more_28 : decode b_M_more 28 = .ok (.ldc_w 373, 3) := by decide +kernel
theorem d_M_more_31 : decode b_M_more 31 = .ok (.ireturn, 1) := by decide +kernel
theorem d_M_more_32 : decode b_M_more 32 = .ok (.aload_n 0, 1) := by decide +kernel
theorem d_M_more_33 : decode b_M_more 33 = .ok (.iload_n 1, 1) := by decide +kernel
theorem d_M_more_34 : decode b_M_more 34 = .ok (.iload_n 2, 1) := by decide +kernel
theorem d_M_more_35 : decode b_M_more 35 = .ok (.invokevirtual 363, 3) := by decide +kernel
theorem d_M_more_38 : decode b_M_more 38 = .ok (.ifCond .ne 5, 3) := by decide +kernel
theorem d_M_more_41 : decode b_M_more 41 = .ok (.iconst 0, 1) := by decide +kernel
theorem d_M_more_42 : decode b_M_more 42 = .ok (.ireturn, 1) := by decide +kernel
theorem d_M_more_43 : decode b_M_more 43 = .ok (.aload_n 0, 1) := by decide +kernel
theorem d_M_more_44 : decode b_M_more 44 = .ok (.getfield 126, 3) := by decide +kernel
theorem d_M_more_47 : decode b_M_more 47 = .ok (.istore 4, 2) := by decide +kernel
theorem d_M_more_49 : decode b_M_more 49 = .ok (.aload_n 0, 1) := by decide +kernel
theorem d_M_more_50 : decode b_M_more 50 = .ok (.getfield 32, 3) := by decide +kernel
theorem d_M_more_53 : decode b_M_more 53 = .ok (.iload_n 3, 1) := by decide +kernel
theorem d_M_more_54 : decode b_M_more 54 = .ok (.iaload, 1) := by decide +kernel
theorem d_M_more_55 : decode b_M_more 55 = .ok (.istore 5, 2) := by decide +kernel
theorem d_M_more_57 : decode b_M_more 57 = .ok (.aload_n 0, 1) := by decide +kernel
theorem d_M_more_58 : decode b_M_more 58 = .ok (.getfield 32, 3) := by decide +kernel
theorem d_M_more_61 : decode b_M_more 61 = .ok (.iload_n 3, 1) := by decide +kernel
theorem d_M_more_62 : decode b_M_more 62 = .ok (.iload 5, 2) := by decide +kernel
theorem d_M_more_64 : decode b_M_more 64 = .ok (.bipush 99, 2) := by decide +kernel
theorem d_M_more_66 : decode b_M_more 66 = .ok (.if_icmp .ge 10, 3) := by decide +kernel
theorem d_M_more_69 : decode b_M_more 69 = .ok (.iload 5, 2) := by decide +kernel
theorem d_M_more_71 : decode b_M_more 71 = .ok (.iconst 1, 1) := by decide +kernel
theorem d_M_more_72 : decode b_M_more 72 = .ok (.iadd, 1) := by decide +kernel
theorem d_M_more_73 : decode b_M_more 73 = .ok (.goto 5, 3) := by decide +kernel
theorem d_M_more_76 : decode b_M_more 76 = .ok (.bipush 99, 2) := by decide +kernel
theorem d_M_more_78 : decode b_M_more 78 = .ok (.iastore, 1) := by decide +kernel
theorem d_M_more_79 : decode b_M_more 79 = .ok (.aload_n 0, 1) := by decide +kernel
theorem d_M_more_80 : decode b_M_more 80 = .ok (.iload_n 1, 1) := by decide +kernel
theorem d_M_more_81 : decode b_M_more 81 = .ok (.iload_n 2, 1) := by decide +kernel
theorem d_M_more_82 : decode b_M_more 82 = .ok (.invokevirtual 363, 3) := by decide +kernel
theorem d_M_more_85 : decode b_M_more 85 = .ok (.istore 6, 2) := by decide +kernel
theorem d_M_more_87 : decode b_M_more 87 = .ok (.aload_n 0, 1) := by decide +kernel
theorem d_M_more_88 : decode b_M_more 88 = .ok (.getfield 126, 3) := by decide +kernel
theorem d_M_more_91 : decode b_M_more 91 = .ok (.istore 7, 2) := by decide +kernel
theorem d_M_more_93 : decode b_M_more 93 = .ok (.aload_n 0, 1) := by decide +kernel
theorem d_M_more_94 : decode b_M_more 94 = .ok (.getfield 32, 3) := by decide +kernel
theorem d_M_more_97 : decode b_M_more 97 = .ok (.iload_n 3, 1) := by decide +kernel
theorem d_M_more_98 : decode b_M_more 98 = .ok (.iload 5, 2) := by decide +kernel
theorem d_M_more_100 : decode b_M_more 100 = .ok (.iastore, 1) := by decide +kernel
theorem d_M_more_101 : decode b_M_more 101 = .ok (.iload 6, 2) := by decide +kernel
theorem d_M_more_103 : decode b_M_more 103 = .ok (.ifCond .eq 11, 3) := by decide +kernel
theorem d_M_more_106 : decode b_M_more 106 = .ok (.iload 7, 2) := by decide +kernel
theorem d_M_more_108 : decode b_M_more 108 = .ok (.iload 4, 2) := by decide +kernel
theorem d_M_more_110 : decode b_M_more 110 = .ok (.isub, 1) := by decide +kernel
theorem d_M_more_111 : decode b_M_more 111 = .ok (.goto 4, 3) := by decide +kernel
theorem d_M_more_114 : decode b_M_more 114 = .ok (.iconst 0, 1) := by decide +kernel
theorem d_M_more_115 : decode b_M_more 115 = .ok (.ireturn, 1) := by decide +kernel
set_option maxRecDepth 20000 in
theorem c_M_more_b78 {r : Int32} {wz : gW} (C : gC p s m args meth c "RidCoppersModel" b_M_more 8 (some .int) D cA oc B) (a0 : Nat) (a1 : Int32) (a2 : Int32) (a3 : Int32) (a4 : Int32) (a5 : Int32) (z0 : Int32) (z1 : Int32) (z2 : Nat) (w : gW) {ls : Array Slot} {H : Heap} {locs : List Loc} (hl : lv_has ls 8 [(0, .ref (B + a0)), (1, .int a1), (2, .int a2), (3, .int a3), (4, .int a4), (5, .int a5)]) (hf : f_M_more_b78 N a0 a1 a2 a3 a4 a5 z0 z1 z2 w = some (r, wz)) (hR : gRep D cA B w H) (hS : va_S (gA B) s.heap H locs) : W p l e ({ frames := 9, cells := 0, slots := 0, locals := 236 } : Room) s m args below meth c H locs 0 0 (MQ below (gQi D cA B r wz) args s 0 0 (gA B)) (F0 m 78 ls [.int z0, .int z1, .ref (B + z2)]) := by
  obtain ⟨hx, hb, hml, hown, hts, hr, hlocks, hK, hBs⟩ := id C
  unfold f_M_more_b78 at hf
  have ⟨h24, hf⟩ := gd_e hf
  have ⟨h25, hf⟩ := gd_e hf
  refine g_iast hx hb hK hR hS h24 h25 d_M_more_78 (fun H locs hR hS => ?_)
  refine g_nW hf hR (fun w26 hf hR => ?_)
  refine lv_aload_n hx hb d_M_more_79 rfl (lv_at hl 0 rfl) ?_
  refine lv_iload_n hx hb d_M_more_80 rfl (lv_at hl 1 rfl) ?_
  refine lv_iload_n hx hb d_M_more_81 rfl (lv_at hl 2 rfl) ?_
  have ⟨h30, hf⟩ := gd_e hf
  have ⟨x27, w28, h29, hf⟩ := kl_e hf
  refine g_ki0 (g_rV (As := [.int a1, .int a2]) (rest := []) hx hb hml hown hts hK hR hS (c_M_could l D cA oc B N a0 a1 a2 w26 h29) I_M_could m_1396 mp_66 (gRecv hK hR (ci := 12) rfl h30) rfl rfl (Nat.le_of_ble_eq_true rfl) hl.1 ⟨Nat.le_of_ble_eq_true rfl, Nat.le_of_ble_eq_true rfl⟩ ⟨Nat.le_of_ble_eq_true rfl, Nat.le_of_ble_eq_true rfl⟩ d_M_more_82) hS (fun H locs hR hS => ?_)
  refine lv_istore (lv' := [(6, .int x27), (0, .ref (B + a0)), (1, .int a1), (2, .int a2), (3, .int a3), (4, .int a4), (5, .int a5)]) hx hb d_M_more_85 hl (by decide) rfl (fun ls hl => ?_)
  refine lv_aload_n hx hb d_M_more_87 rfl (lv_at hl 1 rfl) ?_
  have ⟨h31, hf⟩ := gd_e hf
  refine g_getI hx hb hts hown hK hR fl_M_126 (fun _ => rfl) h31 d_M_more_88 ?_
  refine g_nI hf (fun x32 hf => ?_)
  refine lv_istore (lv' := [(7, .int x32), (6, .int x27), (0, .ref (B + a0)), (1, .int a1), (2, .int a2), (3, .int a3), (4, .int a4), (5, .int a5)]) hx hb d_M_more_91 hl (by decide) rfl (fun ls hl => ?_)
  refine lv_aload_n hx hb d_M_more_93 rfl (lv_at hl 2 rfl) ?_
  have ⟨x33, h34, hf⟩ := rr_e hf
  refine g_getR hx hb hts hown hK hR fl_M_32 (fun _ => rfl) h31 h34 d_M_more_94 ?_
  refine lv_iload_n hx hb d_M_more_97 rfl (lv_at hl 5 rfl) ?_
  refine lv_iload hx hb d_M_more_98 (lv_at hl 7 rfl) ?_
  have ⟨h35, hf⟩ := gd_e hf
  have ⟨h36, hf⟩ := gd_e hf
  refine g_iast hx hb hK hR hS h35 h36 d_M_more_100 (fun H locs hR hS => ?_)
  refine g_nW hf hR (fun w37 hf hR => ?_)
  refine lv_iload hx hb d_M_more_101 (lv_at hl 1 rfl) ?_
  refine lv_if_eq (tgt := 114) hx hb d_M_more_103 (by decide) (fun hc => ?_) (fun hc => ?_)
  · have hf := cd_t hc hf
    refine lv_iconst (v := 0) hx hb d_M_more_114 (by decide) ?_
    exact g_iret hx hb hr hlocks hR hS hf rfl d_M_more_115
  have hf := cd_f hc hf
  refine lv_iload hx hb d_M_more_106 (lv_at hl 0 rfl) ?_
  refine lv_iload hx hb d_M_more_108 (lv_at hl 6 rfl) ?_
  refine lv_isub hx hb d_M_more_110 ?_
  refine g_nI hf (fun x38 hf => ?_)
  refine lv_goto (tgt := 115) hx hb d_M_more_111 (by decide) ?_
  exact g_iret hx hb hr hlocks hR hS hf rfl d_M_more_115
set_option maxRecDepth 20000 in
theorem c_M_more_b0 {r : Int32} {wz : gW} (C : gC p s m args meth c "RidCoppersModel" b_M_more 8 (some .int) D cA oc B) (a0 : Nat) (a1 : Int32) (a2 : Int32) (a3 : Int32) (w : gW) {ls : Array Slot} {H : Heap} {locs : List Loc} (hl : lv_has ls 8 [(0, .ref (B + a0)), (1, .int a1), (2, .int a2), (3, .int a3)]) (hf : f_M_more_b0 N a0 a1 a2 a3 w = some (r, wz)) (hR : gRep D cA B w H) (hS : va_S (gA B) s.heap H locs) : W p l e ({ frames := 9, cells := 0, slots := 0, locals := 236 } : Room) s m args below meth c H locs 0 0 (MQ below (gQi D cA B r wz) args s 0 0 (gA B)) (F0 m 0 ls []) := by
  obtain ⟨hx, hb, hml, hown, hts, hr, hlocks, hK, hBs⟩ := id C
  unfold f_M_more_b0 at hf
  refine lv_aload_n hx hb d_M_more_0 rfl (lv_at hl 0 rfl) ?_
  refine lv_iload_n hx hb d_M_more_1 rfl (lv_at hl 1 rfl) ?_
  have ⟨h4, hf⟩ := gd_e hf
  have ⟨x1, w2, h3, hf⟩ := kl_e hf
  refine g_ki0 (g_rV (As := [.int a1]) (rest := []) hx hb hml hown hts hK hR hS (c_M_isPayer l D cA oc B N a0 a1 w h3) I_M_isPayer m_1212 mp_28 (gRecv hK hR (ci := 12) rfl h4) rfl rfl (Nat.le_of_ble_eq_true rfl) hl.1 ⟨Nat.le_of_ble_eq_true rfl, Nat.le_of_ble_eq_true rfl⟩ ⟨Nat.le_of_ble_eq_true rfl, Nat.le_of_ble_eq_true rfl⟩ d_M_more_2) hS (fun H locs hR hS => ?_)
  refine lv_if_eq (tgt := 16) hx hb d_M_more_5 (by decide) (fun hc => ?_) (fun hc => ?_)
  · have hf := cd_t hc hf
    refine lv_ldcw hx hb hown (hts _ m_1448) d_M_more_16 ?_
    exact g_iret hx hb hr hlocks hR hS hf rfl d_M_more_19
  have hf := cd_f hc hf
  refine lv_aload_n hx hb d_M_more_8 rfl (lv_at hl 0 rfl) ?_
  refine lv_iload_n hx hb d_M_more_9 rfl (lv_at hl 3 rfl) ?_
  have ⟨h8, hf⟩ := gd_e hf
  have ⟨x5, w6, h7, hf⟩ := kl_e hf
  refine g_ki0 (g_rV (As := [.int a3]) (rest := []) hx hb hml hown hts hK hR hS (c_M_isSort l D cA oc B N a0 a3 w2 h7) I_M_isSort m_1216 mp_29 (gRecv hK hR (ci := 12) rfl h8) rfl rfl (Nat.le_of_ble_eq_true rfl) hl.1 ⟨Nat.le_of_ble_eq_true rfl, Nat.le_of_ble_eq_true rfl⟩ ⟨Nat.le_of_ble_eq_true rfl, Nat.le_of_ble_eq_true rfl⟩ d_M_more_10) hS (fun H locs hR hS => ?_)
  refine lv_if_ne (tgt := 20) hx hb d_M_more_13 (by decide) (fun hc => ?_) (fun hc => ?_)
  · have hf := cd_f hc hf
    refine lv_aload_n hx hb d_M_more_20 rfl (lv_at hl 0 rfl) ?_
    refine lv_iload_n hx hb d_M_more_21 rfl (lv_at hl 2 rfl) ?_
    have ⟨h12, hf⟩ := gd_e hf
    have ⟨x9, w10, h11, hf⟩ := kl_e hf
    refine g_ki0 (g_rV (As := [.int a2]) (rest := []) hx hb hml hown hts hK hR hS (c_M_isPrice l D cA oc B N a0 a2 w6 h11) I_M_isPrice m_1344 mp_54 (gRecv hK hR (ci := 12) rfl h12) rfl rfl (Nat.le_of_ble_eq_true rfl) hl.1 ⟨Nat.le_of_ble_eq_true rfl, Nat.le_of_ble_eq_true rfl⟩ ⟨Nat.le_of_ble_eq_true rfl, Nat.le_of_ble_eq_true rfl⟩ d_M_more_22) hS (fun H locs hR hS => ?_)
    refine lv_if_ne (tgt := 32) hx hb d_M_more_25 (by decide) (fun hc => ?_) (fun hc => ?_)
    · have hf := cd_f hc hf
      refine lv_aload_n hx hb d_M_more_32 rfl (lv_at hl 0 rfl) ?_
      refine lv_iload_n hx hb d_M_more_33 rfl (lv_at hl 1 rfl) ?_
      refine lv_iload_n hx hb d_M_more_34 rfl (lv_at hl 2 rfl) ?_
      have ⟨h16, hf⟩ := gd_e hf
      have ⟨x13, w14, h15, hf⟩ := kl_e hf
      refine g_ki0 (g_rV (As := [.int a1, .int a2]) (rest := []) hx hb hml hown hts hK hR hS (c_M_could l D cA oc B N a0 a1 a2 w10 h15) I_M_could m_1396 mp_66 (gRecv hK hR (ci := 12) rfl h16) rfl rfl (Nat.le_of_ble_eq_true rfl) hl.1 ⟨Nat.le_of_ble_eq_true rfl, Nat.le_of_ble_eq_true rfl⟩ ⟨Nat.le_of_ble_eq_true rfl, Nat.le_of_ble_eq_true rfl⟩ d_M_more_35) hS (fun H locs hR hS => ?_)
      refine lv_if_ne (tgt := 43) hx hb d_M_more_38 (by decide) (fun hc => ?_) (fun hc => ?_)
      · have hf := cd_f hc hf
        refine lv_aload_n hx hb d_M_more_43 rfl (lv_at hl 0 rfl) ?_
        have ⟨h17, hf⟩ := gd_e hf
        refine g_getI hx hb hts hown hK hR fl_M_126 (fun _ => rfl) h17 d_M_more_44 ?_
        refine g_nI hf (fun x18 hf => ?_)
        refine lv_istore (lv' := [(4, .int x18), (0, .ref (B + a0)), (1, .int a1), (2, .int a2), (3, .int a3)]) hx hb d_M_more_47 hl (by decide) rfl (fun ls hl => ?_)
        refine lv_aload_n hx hb d_M_more_49 rfl (lv_at hl 1 rfl) ?_
        have ⟨x19, h20, hf⟩ := rr_e hf
        refine g_getR hx hb hts hown hK hR fl_M_32 (fun _ => rfl) h17 h20 d_M_more_50 ?_
        refine lv_iload_n hx hb d_M_more_53 rfl (lv_at hl 4 rfl) ?_
        have ⟨h21, hf⟩ := gd_e hf
        have ⟨h22, hf⟩ := gd_e hf
        refine g_iald hx hb hK hR h21 h22 d_M_more_54 ?_
        refine g_nI hf (fun x23 hf => ?_)
        refine lv_istore (lv' := [(5, .int x23), (4, .int x18), (0, .ref (B + a0)), (1, .int a1), (2, .int a2), (3, .int a3)]) hx hb d_M_more_55 hl (by decide) rfl (fun ls hl => ?_)
        refine lv_aload_n hx hb d_M_more_57 rfl (lv_at hl 2 rfl) ?_
        refine g_getR hx hb hts hown hK hR fl_M_32 (fun _ => rfl) h17 h20 d_M_more_58 ?_
        refine lv_iload_n hx hb d_M_more_61 rfl (lv_at hl 5 rfl) ?_
        refine lv_iload hx hb d_M_more_62 (lv_at hl 0 rfl) ?_
        refine lv_bipush (v := 99) hx hb d_M_more_64 (by decide) ?_
        refine lv_icmp_ge (tgt := 76) hx hb d_M_more_66 (by decide) (fun hc => ?_) (fun hc => ?_)
        · have hf := cd_t hc hf
          refine lv_bipush (v := 99) hx hb d_M_more_76 (by decide) ?_
          exact c_M_more_b78 C a0 a1 a2 a3 x18 x23 99 a3 x19 w14 (lv_sub hl [2, 3, 4, 5, 1, 0] rfl) hf hR hS
        have hf := cd_f hc hf
        refine lv_iload hx hb d_M_more_69 (lv_at hl 0 rfl) ?_
        refine lv_iconst (v := 1) hx hb d_M_more_71 (by decide) ?_
        refine lv_iadd hx hb d_M_more_72 ?_
        refine g_nI hf (fun x39 hf => ?_)
        refine lv_goto (tgt := 78) hx hb d_M_more_73 (by decide) ?_
        exact c_M_more_b78 C a0 a1 a2 a3 x18 x23 x39 a3 x19 w14 (lv_sub hl [2, 3, 4, 5, 1, 0] rfl) hf hR hS
      have hf := cd_t hc hf
      refine lv_iconst (v := 0) hx hb d_M_more_41 (by decide) ?_
      exact g_iret hx hb hr hlocks hR hS hf rfl d_M_more_42
    have hf := cd_t hc hf
    refine lv_ldcw hx hb hown (hts _ m_1449) d_M_more_28 ?_
    exact g_iret hx hb hr hlocks hR hS hf rfl d_M_more_31
  have hf := cd_t hc hf
  refine lv_ldcw hx hb hown (hts _ m_1448) d_M_more_16 ?_
  exact g_iret hx hb hr hlocks hR hS hf rfl d_M_more_19
theorem c_M_more (l : Launch) (D : va_G) (cA : Nat → ClassId) (oc : gO) (B N : Nat) (a0 : Nat) (a1 : Int32) (a2 : Int32) (a3 : Int32) (w : gW) {wz : gW} {r : Int32} (hf : f_M_more N a0 a1 a2 a3 w = some (r, wz)) : Met l y_M_more (Cond.code y_M_more b_M_more 8 (some .int) :: lw_good) ({ frames := 9, cells := 0, slots := 0, locals := 236 } : Room) (gPre D cA oc B [.ref (B + a0), .int a1, .int a2, .int a3] w) (gQi D cA B r wz) 0 0 (gA B) := by
  refine Met.ofW (cc := b_M_more) (maxL := 8) (ret := (some .int)) (by decide +kernel) rfl ?_
  intro p e s m args below meth c s₁ Bd hml hv
  obtain ⟨hargs, C, hR⟩ := gC.enter (l := l) rfl Bd hml hv
  subst hargs
  have hl := lv_entry ([.ref (B + a0), .int a1, .int a2, .int a3]) (n := 8) (Nat.le_of_ble_eq_true rfl)
  rw [lg_entry_eq]
  generalize (lg_sl ([.ref (B + a0), .int a1, .int a2, .int a3]) ++ List.replicate (8 - (lg_sl ([.ref (B + a0), .int a1, .int a2, .int a3])).length) Slot.unset).toArray = ls at hl ⊢
  have hl : lv_has ls 8 [(0, .ref (B + a0)), (1, .int a1), (2, .int a2), (3, .int a3)] := hl
  exact c_M_more_b0 C a0 a1 a2 a3 w (lv_sub hl [0, 1, 2, 3] rfl) hf hR va_S.rf
theorem d_M_heaviest_0 : decode b_M_heaviest 0 = .ok (.aload_n 0, 1) := by decide +kernel
theorem d_M_heaviest_1 : decode b_M_heaviest 1 = .ok (.iload_n 1, 1) := by decide +kernel
theorem d_M_heaviest_2 : decode b_M_heaviest 2 = .ok (.invokevirtual 234, 3) := by decide +kernel
theorem d_M_heaviest_5 : decode b_M_heaviest 5 = .ok (.ifCond .ne 5, 3) := by decide +kernel
theorem d_M_heaviest_8 : decode b_M_heaviest 8 = .ok (.iconst (-1), 1) := by decide +kernel
theorem d_M_heaviest_9 : decode b_M_heaviest 9 = .ok (.ireturn, 1) := by decide +kernel
theorem d_M_heaviest_10 : decode b_M_heaviest 10 = .ok (.aload_n 0, 1) := by decide +kernel
theorem d_M_heaviest_11 : decode b_M_heaviest 11 = .ok (.iload_n 2, 1) := by decide +kernel
theorem d_M_heaviest_12 : decode b_M_heaviest 12 = .ok (.iconst 1, 1) := by decide +kernel
theorem d_M_heaviest_13 : decode b_M_heaviest 13 = .ok (.bipush 8, 2) := by decide +kernel
theorem d_M_heaviest_15 : decode b_M_heaviest 15 = .ok (.invokevirtual 230, 3) := by decide +kernel
theorem d_M_heaviest_18 : decode b_M_heaviest 18 = .ok (.ifCond .ne 6, 3) := by decide +kernel
theorem d_M_heaviest_21 : decode b_M_heaviest 21 = .ok (.bipush (-2), 2) := by decide +kernel
theorem d_M_heaviest_23 : decode b_M_heaviest 23 = .ok (.ireturn, 1) := by decide +kernel
theorem d_M_heaviest_24 : decode b_M_heaviest 24 = .ok (.aload_n 0, 1) := by decide +kernel
theorem d_M_heaviest_25 : decode b_M_heaviest 25 = .ok (.iload_n 1, 1) := by decide +kernel
theorem d_M_heaviest_26 : decode b_M_heaviest 26 = .ok (.invokevirtual 312, 3) := by decide +kernel
theorem d_M_heaviest_29 : decode b_M_heaviest 29 = .ok (.istore_n 3, 1) := by decide +kernel
theorem d_M_heaviest_30 : decode b_M_heaviest 30 = .ok (.aload_n 0, 1) := by decide +kernel
theorem d_M_heaviest_31 : decode b_M_heaviest 31 = .ok (.invokevirtual 357, 3) := by decide +kernel
theorem d_M_heaviest_34 : decode b_M_heaviest 34 = .ok (.iconst 1, 1) := by decide +kernel
theorem d_M_heaviest_35 : decode b_M_heaviest 35 = .ok (.istore 4, 2) := by decide +kernel
theorem d_M_heaviest_37 : decode b_M_heaviest 37 = .ok (.iload 4, 2) := by decide +kernel
theorem d_M_heaviest_39 : decode b_M_heaviest 39 = .ok (.iload_n 2, 1) := by decide +kernel
theorem d_M_heaviest_40 : decode b_M_heaviest 40 = .ok (.if_icmp .gt 41, 3) := by decide +kernel
theorem d_M_heaviest_43 : decode b_M_heaviest 43 = .ok (.aload_n 0, 1) := by decide +kernel
theorem d_M_heaviest_44 : decode b_M_heaviest 44 = .ok (.iload_n 1, 1) := by decide +kernel
theorem d_M_heaviest_45 : decode b_M_heaviest 45 = .ok (.bipush 7, 2) := by decide +kernel
theorem d_M_heaviest_47 : decode b_M_heaviest 47 = .ok (.iload 4, 2) := by decide +kernel
theorem d_M_heaviest_49 : decode b_M_heaviest 49 = .ok (.imul, 1) := by decide +kernel
theorem d_M_heaviest_50 : decode b_M_heaviest 50 = .ok (.invokevirtual 351, 3) := by decide +kernel
theorem d_M_heaviest_53 : decode b_M_heaviest 53 = .ok (.istore 5, 2) := by decide +kernel
theorem d_M_heaviest_55 : decode b_M_heaviest 55 = .ok (.aload_n 0, 1) := by decide +kernel
theorem d_M_heaviest_56 : decode b_M_heaviest 56 = .ok (.iload_n 1, 1) := by decide +kernel
theorem d_M_heaviest_57 : decode b_M_heaviest 57 = .ok (.invokevirtual 312, 3) := by decide +kernel
theorem d_M_heaviest_60 : decode b_M_heaviest 60 = .ok (.istore 6, 2) := by decide +kernel
theorem d_M_heaviest_62 : decode b_M_heaviest 62 = .ok (.iload 6, 2) := by decide +kernel
theorem d_M_heaviest_64 : decode b_M_heaviest 64 = .ok (.iload_n 3, 1) := by decide +kernel
theorem d_M_heaviest_65 : decode b_M_heaviest 65 = .ok (.if_icmp .le 8, 3) := by decide +kernel
theorem d_M_heaviest_68 : decode b_M_heaviest 68 = .ok (.iload 6, 2) := by decide +kernel
theorem d_M_heaviest_70 : decode b_M_heaviest 70 = .ok (.goto 4, 3) := by decide +kernel
theorem d_M_heaviest_73 : decode b_M_heaviest 73 = .ok (.iload_n 3, 1) := by decide +kernel
theorem d_M_heaviest_74 : decode b_M_heaviest 74 = .ok (.istore_n 3, 1) := by decide +kernel
theorem d_M_heaviest_75 : decode b_M_heaviest 75 = .ok (.iinc 4 1, 3) := by decide +kernel
theorem d_M_heaviest_78 : decode b_M_heaviest 78 = .ok (.goto (-41), 3) := by decide +kernel
theorem d_M_heaviest_81 : decode b_M_heaviest 81 = .ok (.aload_n 0, 1) := by decide +kernel
theorem d_M_heaviest_82 : decode b_M_heaviest 82 = .ok (.invokevirtual 360, 3) := by decide +kernel
theorem d_M_heaviest_85 : decode b_M_heaviest 85 = .ok (.iload_n 3, 1) := by decide +kernel
theorem d_M_heaviest_86 : decode b_M_heaviest 86 = .ok (.ireturn, 1) := by decide +kernel
set_option maxRecDepth 20000 in
theorem c_M_heaviest_b37 {r : Int32} {wz : gW} {rec37 : Nat × Int32 × Int32 × Int32 × Int32 × gW → Option (Int32 × gW)} (ih37 : ∀ (a0 : Nat) (a1 : Int32) (a2 : Int32) (a3 : Int32) (a4 : Int32) (w : gW) (ls : Array Slot) (H : Heap) (locs : List Loc), rec37 (a0, a1, a2, a3, a4, w) = some (r, wz) → lv_has ls 7 [(0, .ref (B + a0)), (1, .int a1), (2, .int a2), (3, .int a3), (4, .int a4)] → gRep D cA B w H → va_S (gA B) s.heap H locs → W p l e ({ frames := 8, cells := 0, slots := 0, locals := 213 } : Room) s m args below meth c H locs 0 0 (MQ below (gQi D cA B r wz) args s 0 0 (gA B)) (F0 m 37 ls [])) (C : gC p s m args meth c "RidCoppersModel" b_M_heaviest 7 (some .int) D cA oc B) (a0 : Nat) (a1 : Int32) (a2 : Int32) (a3 : Int32) (a4 : Int32) (w : gW) {ls : Array Slot} {H : Heap} {locs : List Loc} (hl : lv_has ls 7 [(0, .ref (B + a0)), (1, .int a1), (2, .int a2), (3, .int a3), (4, .int a4)]) (hf : f_M_heaviest_b37 N rec37 a0 a1 a2 a3 a4 w = some (r, wz)) (hR : gRep D cA B w H) (hS : va_S (gA B) s.heap H locs) : W p l e ({ frames := 8, cells := 0, slots := 0, locals := 213 } : Room) s m args below meth c H locs 0 0 (MQ below (gQi D cA B r wz) args s 0 0 (gA B)) (F0 m 37 ls []) := by
  obtain ⟨hx, hb, hml, hown, hts, hr, hlocks, hK, hBs⟩ := id C
  unfold f_M_heaviest_b37 at hf
  refine lv_iload hx hb d_M_heaviest_37 (lv_at hl 4 rfl) ?_
  refine lv_iload_n hx hb d_M_heaviest_39 rfl (lv_at hl 2 rfl) ?_
  refine lv_icmp_gt (tgt := 81) hx hb d_M_heaviest_40 (by decide) (fun hc => ?_) (fun hc => ?_)
  · have hf := cd_t hc hf
    refine lv_aload_n hx hb d_M_heaviest_81 rfl (lv_at hl 0 rfl) ?_
    have ⟨h20, hf⟩ := gd_e hf
    have ⟨x17, w18, h19, hf⟩ := kl_e hf
    refine g_kv0 (g_rV (As := []) (rest := []) hx hb hml hown hts hK hR hS (c_M_putBack l D cA oc B N a0 w h19) I_M_putBack m_1404 mp_68 (gRecv hK hR (ci := 12) rfl h20) rfl rfl (Nat.le_of_ble_eq_true rfl) hl.1 ⟨Nat.le_of_ble_eq_true rfl, Nat.le_of_ble_eq_true rfl⟩ ⟨Nat.le_of_ble_eq_true rfl, Nat.le_of_ble_eq_true rfl⟩ d_M_heaviest_82) hS (fun H locs hR hS => ?_)
    refine lv_iload_n hx hb d_M_heaviest_85 rfl (lv_at hl 3 rfl) ?_
    exact g_iret hx hb hr hlocks hR hS hf rfl d_M_heaviest_86
  have hf := cd_f hc hf
  refine lv_aload_n hx hb d_M_heaviest_43 rfl (lv_at hl 0 rfl) ?_
  refine lv_iload_n hx hb d_M_heaviest_44 rfl (lv_at hl 1 rfl) ?_
  refine lv_bipush (v := 7) hx hb d_M_heaviest_45 (by decide) ?_
  refine lv_iload hx hb d_M_heaviest_47 (lv_at hl 4 rfl) ?_
  refine lv_imul hx hb d_M_heaviest_49 ?_
  refine g_nI hf (fun x21 hf => ?_)
  have ⟨h25, hf⟩ := gd_e hf
  have ⟨x22, w23, h24, hf⟩ := kl_e hf
  refine g_ki0 (g_rV (As := [.int a1, .int x21]) (rest := []) hx hb hml hown hts hK hR hS (c_M_goes l D cA oc B N a0 a1 x21 w h24) I_M_goes m_1348 mp_55 (gRecv hK hR (ci := 12) rfl h25) rfl rfl (Nat.le_of_ble_eq_true rfl) hl.1 ⟨Nat.le_of_ble_eq_true rfl, Nat.le_of_ble_eq_true rfl⟩ ⟨Nat.le_of_ble_eq_true rfl, Nat.le_of_ble_eq_true rfl⟩ d_M_heaviest_50) hS (fun H locs hR hS => ?_)
  refine lv_istore (lv' := [(5, .int x22), (0, .ref (B + a0)), (1, .int a1), (2, .int a2), (3, .int a3), (4, .int a4)]) hx hb d_M_heaviest_53 hl (by decide) rfl (fun ls hl => ?_)
  refine lv_aload_n hx hb d_M_heaviest_55 rfl (lv_at hl 1 rfl) ?_
  refine lv_iload_n hx hb d_M_heaviest_56 rfl (lv_at hl 2 rfl) ?_
  have ⟨h29, hf⟩ := gd_e hf
  have ⟨x26, w27, h28, hf⟩ := kl_e hf
  refine g_ki0 (g_rV (As := [.int a1]) (rest := []) hx hb hml hown hts hK hR hS (c_M_weight l D cA oc B N a0 a1 w23 h28) I_M_weight m_1320 mp_50 (gRecv hK hR (ci := 12) rfl h29) rfl rfl (Nat.le_of_ble_eq_true rfl) hl.1 ⟨Nat.le_of_ble_eq_true rfl, Nat.le_of_ble_eq_true rfl⟩ ⟨Nat.le_of_ble_eq_true rfl, Nat.le_of_ble_eq_true rfl⟩ d_M_heaviest_57) hS (fun H locs hR hS => ?_)
  refine lv_istore (lv' := [(6, .int x26), (5, .int x22), (0, .ref (B + a0)), (1, .int a1), (2, .int a2), (3, .int a3), (4, .int a4)]) hx hb d_M_heaviest_60 hl (by decide) rfl (fun ls hl => ?_)
  refine lv_iload hx hb d_M_heaviest_62 (lv_at hl 0 rfl) ?_
  refine lv_iload_n hx hb d_M_heaviest_64 rfl (lv_at hl 5 rfl) ?_
  refine lv_icmp_le (tgt := 73) hx hb d_M_heaviest_65 (by decide) (fun hc => ?_) (fun hc => ?_)
  · have hf := cd_t hc hf
    refine lv_iload_n hx hb d_M_heaviest_73 rfl (lv_at hl 5 rfl) ?_
    refine lv_istore_n (lv' := [(3, .int a3), (6, .int x26), (5, .int x22), (0, .ref (B + a0)), (1, .int a1), (2, .int a2), (4, .int a4)]) hx hb d_M_heaviest_74 rfl hl (by decide) rfl (fun ls hl => ?_)
    refine g_iinc (lv' := fun x30 => [(4, .int x30), (3, .int a3), (6, .int x26), (5, .int x22), (0, .ref (B + a0)), (1, .int a1), (2, .int a2)]) hf hx hb d_M_heaviest_75 hl (k := 6) rfl (by decide) (by decide) (fun _ => rfl) (fun x30 ls hf hl => ?_)
    refine lv_goto (tgt := 37) hx hb d_M_heaviest_78 (by decide) ?_
    exact ih37 a0 a1 a2 a3 x30 w27 _ _ _ hf (lv_sub hl [4, 5, 6, 1, 0] rfl) hR hS
  have hf := cd_f hc hf
  refine lv_iload hx hb d_M_heaviest_68 (lv_at hl 0 rfl) ?_
  refine lv_goto (tgt := 74) hx hb d_M_heaviest_70 (by decide) ?_
  refine lv_istore_n (lv' := [(3, .int x26), (6, .int x26), (5, .int x22), (0, .ref (B + a0)), (1, .int a1), (2, .int a2), (4, .int a4)]) hx hb d_M_heaviest_74 rfl hl (by decide) rfl (fun ls hl => ?_)
  refine g_iinc (lv' := fun x31 => [(4, .int x31), (3, .int x26), (6, .int x26), (5, .int x22), (0, .ref (B + a0)), (1, .int a1), (2, .int a2)]) hf hx hb d_M_heaviest_75 hl (k := 6) rfl (by decide) (by decide) (fun _ => rfl) (fun x31 ls hf hl => ?_)
  refine lv_goto (tgt := 37) hx hb d_M_heaviest_78 (by decide) ?_
  exact ih37 a0 a1 a2 x26 x31 w27 _ _ _ hf (lv_sub hl [4, 5, 6, 1, 0] rfl) hR hS
theorem c_M_heaviest_l37 {r : Int32} {wz : gW} (C : gC p s m args meth c "RidCoppersModel" b_M_heaviest 7 (some .int) D cA oc B) (a0 : Nat) (a1 : Int32) (a2 : Int32) (a3 : Int32) (a4 : Int32) (w : gW) {ls : Array Slot} {H : Heap} {locs : List Loc} (hl : lv_has ls 7 [(0, .ref (B + a0)), (1, .int a1), (2, .int a2), (3, .int a3), (4, .int a4)]) (hf : f_M_heaviest_l37 N a0 a1 a2 a3 a4 w = some (r, wz)) (hR : gRep D cA B w H) (hS : va_S (gA B) s.heap H locs) : W p l e ({ frames := 8, cells := 0, slots := 0, locals := 213 } : Room) s m args below meth c H locs 0 0 (MQ below (gQi D cA B r wz) args s 0 0 (gA B)) (F0 m 37 ls []) := by
  unfold f_M_heaviest_l37 at hf
  suffices hh : ∀ n : Nat, ∀ (a0 : Nat) (a1 : Int32) (a2 : Int32) (a3 : Int32) (a4 : Int32) (w : gW) (ls : Array Slot) (H : Heap) (locs : List Loc), itr (fun rec (q : Nat × Int32 × Int32 × Int32 × Int32 × gW) => f_M_heaviest_b37 N rec q.1 q.2.1 q.2.2.1 q.2.2.2.1 q.2.2.2.2.1 q.2.2.2.2.2) n (a0, a1, a2, a3, a4, w) = some (r, wz) → lv_has ls 7 [(0, .ref (B + a0)), (1, .int a1), (2, .int a2), (3, .int a3), (4, .int a4)] → gRep D cA B w H → va_S (gA B) s.heap H locs → W p l e ({ frames := 8, cells := 0, slots := 0, locals := 213 } : Room) s m args below meth c H locs 0 0 (MQ below (gQi D cA B r wz) args s 0 0 (gA B)) (F0 m 37 ls []) from hh N a0 a1 a2 a3 a4 w ls H locs hf hl hR hS
  intro n
  induction n with
  | zero => intro a0 a1 a2 a3 a4 w ls H locs hf; cases hf
  | succ n ihn =>
    intro a0 a1 a2 a3 a4 w ls H locs hf hl hR hS
    exact c_M_heaviest_b37 (N := N) ihn C a0 a1 a2 a3 a4 w hl ((itr_s _ _ _).symm.trans hf) hR hS
set_option maxRecDepth 20000 in
theorem c_M_heaviest_b0 {r : Int32} {wz : gW} (C : gC p s m args meth c "RidCoppersModel" b_M_heaviest 7 (some .int) D cA oc B) (a0 : Nat) (a1 : Int32) (a2 : Int32) (w : gW) {ls : Array Slot} {H : Heap} {locs : List Loc} (hl : lv_has ls 7 [(0, .ref (B + a0)), (1, .int a1), (2, .int a2)]) (hf : f_M_heaviest_b0 N a0 a1 a2 w = some (r, wz)) (hR : gRep D cA B w H) (hS : va_S (gA B) s.heap H locs) : W p l e ({ frames := 8, cells := 0, slots := 0, locals := 213 } : Room) s m args below meth c H locs 0 0 (MQ below (gQi D cA B r wz) args s 0 0 (gA B)) (F0 m 0 ls []) := by
  obtain ⟨hx, hb, hml, hown, hts, hr, hlocks, hK, hBs⟩ := id C
  unfold f_M_heaviest_b0 at hf
  refine lv_aload_n hx hb d_M_heaviest_0 rfl (lv_at hl 0 rfl) ?_
  refine lv_iload_n hx hb d_M_heaviest_1 rfl (lv_at hl 1 rfl) ?_
  have ⟨h4, hf⟩ := gd_e hf
  have ⟨x1, w2, h3, hf⟩ := kl_e hf
  refine g_ki0 (g_rV (As := [.int a1]) (rest := []) hx hb hml hown hts hK hR hS (c_M_isPayer l D cA oc B N a0 a1 w h3) I_M_isPayer m_1212 mp_28 (gRecv hK hR (ci := 12) rfl h4) rfl rfl (Nat.le_of_ble_eq_true rfl) hl.1 ⟨Nat.le_of_ble_eq_true rfl, Nat.le_of_ble_eq_true rfl⟩ ⟨Nat.le_of_ble_eq_true rfl, Nat.le_of_ble_eq_true rfl⟩ d_M_heaviest_2) hS (fun H locs hR hS => ?_)
  refine lv_if_ne (tgt := 10) hx hb d_M_heaviest_5 (by decide) (fun hc => ?_) (fun hc => ?_)
  · have hf := cd_f hc hf
    refine lv_aload_n hx hb d_M_heaviest_10 rfl (lv_at hl 0 rfl) ?_
    refine lv_iload_n hx hb d_M_heaviest_11 rfl (lv_at hl 2 rfl) ?_
    refine lv_iconst (v := 1) hx hb d_M_heaviest_12 (by decide) ?_
    refine lv_bipush (v := 8) hx hb d_M_heaviest_13 (by decide) ?_
    have ⟨h8, hf⟩ := gd_e hf
    have ⟨x5, w6, h7, hf⟩ := kl_e hf
    refine g_ki0 (g_rV (As := [.int a2, .int 1, .int 8]) (rest := []) hx hb hml hown hts hK hR hS (c_M_in l D cA oc B N a0 a2 1 8 w2 h7) I_M_in m_1204 mp_27 (gRecv hK hR (ci := 12) rfl h8) rfl rfl (Nat.le_of_ble_eq_true rfl) hl.1 ⟨Nat.le_of_ble_eq_true rfl, Nat.le_of_ble_eq_true rfl⟩ ⟨Nat.le_of_ble_eq_true rfl, Nat.le_of_ble_eq_true rfl⟩ d_M_heaviest_15) hS (fun H locs hR hS => ?_)
    refine lv_if_ne (tgt := 24) hx hb d_M_heaviest_18 (by decide) (fun hc => ?_) (fun hc => ?_)
    · have hf := cd_f hc hf
      refine lv_aload_n hx hb d_M_heaviest_24 rfl (lv_at hl 0 rfl) ?_
      refine lv_iload_n hx hb d_M_heaviest_25 rfl (lv_at hl 1 rfl) ?_
      have ⟨h12, hf⟩ := gd_e hf
      have ⟨x9, w10, h11, hf⟩ := kl_e hf
      refine g_ki0 (g_rV (As := [.int a1]) (rest := []) hx hb hml hown hts hK hR hS (c_M_weight l D cA oc B N a0 a1 w6 h11) I_M_weight m_1320 mp_50 (gRecv hK hR (ci := 12) rfl h12) rfl rfl (Nat.le_of_ble_eq_true rfl) hl.1 ⟨Nat.le_of_ble_eq_true rfl, Nat.le_of_ble_eq_true rfl⟩ ⟨Nat.le_of_ble_eq_true rfl, Nat.le_of_ble_eq_true rfl⟩ d_M_heaviest_26) hS (fun H locs hR hS => ?_)
      refine lv_istore_n (lv' := [(3, .int x9), (0, .ref (B + a0)), (1, .int a1), (2, .int a2)]) hx hb d_M_heaviest_29 rfl hl (by decide) rfl (fun ls hl => ?_)
      refine lv_aload_n hx hb d_M_heaviest_30 rfl (lv_at hl 1 rfl) ?_
      have ⟨h16, hf⟩ := gd_e hf
      have ⟨x13, w14, h15, hf⟩ := kl_e hf
      refine g_kv0 (g_rV (As := []) (rest := []) hx hb hml hown hts hK hR hS (c_M_save l D cA oc B N a0 w10 h15) I_M_save m_1400 mp_67 (gRecv hK hR (ci := 12) rfl h16) rfl rfl (Nat.le_of_ble_eq_true rfl) hl.1 ⟨Nat.le_of_ble_eq_true rfl, Nat.le_of_ble_eq_true rfl⟩ ⟨Nat.le_of_ble_eq_true rfl, Nat.le_of_ble_eq_true rfl⟩ d_M_heaviest_31) hS (fun H locs hR hS => ?_)
      refine lv_iconst (v := 1) hx hb d_M_heaviest_34 (by decide) ?_
      refine lv_istore (lv' := [(4, .int 1), (3, .int x9), (0, .ref (B + a0)), (1, .int a1), (2, .int a2)]) hx hb d_M_heaviest_35 hl (by decide) rfl (fun ls hl => ?_)
      exact c_M_heaviest_l37 C a0 a1 a2 x9 1 w14 (lv_sub hl [2, 3, 4, 1, 0] rfl) hf hR hS
    have hf := cd_t hc hf
    refine lv_bipush (v := (-2)) hx hb d_M_heaviest_21 (by decide) ?_
    exact g_iret hx hb hr hlocks hR hS hf rfl d_M_heaviest_23
  have hf := cd_t hc hf
  refine lv_iconst (v := (-1)) hx hb d_M_heaviest_8 (by decide) ?_
  exact g_iret hx hb hr hlocks hR hS hf rfl d_M_heaviest_9
theorem c_M_heaviest (l : Launch) (D : va_G) (cA : Nat → ClassId) (oc : gO) (B N : Nat) (a0 : Nat) (a1 : Int32) (a2 : Int32) (w : gW) {wz : gW} {r : Int32} (hf : f_M_heaviest N a0 a1 a2 w = some (r, wz)) : Met l y_M_heaviest (Cond.code y_M_heaviest b_M_heaviest 7 (some .int) :: lw_good) ({ frames := 8, cells := 0, slots := 0, locals := 213 } : Room) (gPre D cA oc B [.ref (B + a0), .int a1, .int a2] w) (gQi D cA B r wz) 0 0 (gA B) := by
  refine Met.ofW (cc := b_M_heaviest) (maxL := 7) (ret := (some .int)) (by decide +kernel) rfl ?_
  intro p e s m args below meth c s₁ Bd hml hv
  obtain ⟨hargs, C, hR⟩ := gC.enter (l := l) rfl Bd hml hv
  subst hargs
  have hl := lv_entry ([.ref (B + a0), .int a1, .int a2]) (n := 7) (Nat.le_of_ble_eq_true rfl)
  rw [lg_entry_eq]
  generalize (lg_sl ([.ref (B + a0), .int a1, .int a2]) ++ List.replicate (7 - (lg_sl ([.ref (B + a0), .int a1, .int a2])).length) Slot.unset).toArray = ls at hl ⊢
  have hl : lv_has ls 7 [(0, .ref (B + a0)), (1, .int a1), (2, .int a2)] := hl
  exact c_M_heaviest_b0 C a0 a1 a2 w (lv_sub hl [0, 1, 2] rfl) hf hR va_S.rf
theorem d_M_see_0 : decode b_M_see 0 = .ok (.iload_n 1, 1) := by decide +kernel
theorem d_M_see_1 : decode b_M_see 1 = .ok (.iconst (-1), 1) := by decide +kernel
theorem d_M_see_2 : decode b_M_see 2 = .ok (.if_icmp .ne 10, 3) := by decide +kernel
theorem d_M_see_5 : decode b_M_see 5 = .ok (.aload_n 0, 1) := by decide +kernel
theorem d_M_see_6 : decode b_M_see 6 = .ok (.iconst 0, 1) := by decide +kernel
theorem d_M_see_7 : decode b_M_see 7 = .ok (.putfield 141, 3) := by decide +kernel
theorem d_M_see_10 : decode b_M_see 10 = .ok (.iconst 0, 1) := by decide +kernel
theorem d_M_see_11 : decode b_M_see 11 = .ok (.ireturn, 1) := by decide +kernel
theorem d_M_see_12 : decode b_M_see 12 = .ok (.aload_n 0, 1) := by decide +kernel
theorem d_M_see_13 : decode b_M_see 13 = .ok (.iload_n 1, 1) := by decide +kernel
theorem d_M_see_14 : decode b_M_see 14 = .ok (.invokevirtual 348, 3) := by decide +kernel
theorem d_M_see_17 : decode b_M_see 17 = .ok (.ifCond .eq 14, 3) := by decide +kernel
theorem d_M_see_20 : decode b_M_see 20 = .ok (.aload_n 0, 1) := by decide +kernel
theorem d_M_see_21 : decode b_M_see 21 = .ok (.iload_n 2, 1) := by decide +kernel
theorem d_M_see_22 : decode b_M_see 22 = .ok (.iconst 0, 1) := by decide +kernel
theorem d_M_see_23 : decode b_M_see 23 = .ok (.bipush 99, 2) := by decide +kernel
theorem d_M_see_25 : decode b_M_see 25 = .ok (.invokevirtual 230, 3) := by decide +kernel
theorem d_M_see_28 : decode b_M_see 28 = .ok (.ifCond .ne 6, 3) := by decide +kernel
theorem d_M_see_31 : decode b_M_see 31 = .ok (.bipush (-2), 2) := by decide +kernel
theorem d_M_see_33 : decode b_M_see 33 = .ok (.ireturn, 1) := by decide +kernel
theorem d_M_see_34 : decode b_M_see 34 = .ok (.aload_n 0, 1) := by decide +kernel
theorem d_M_see_35 : decode b_M_see 35 = .ok (.getfield 141, 3) := by decide +kernel
theorem d_M_see_38 : decode b_M_see 38 = .ok (.iconst 4, 1) := by decide +kernel
theorem d_M_see_39 : decode b_M_see 39 = .ok (.if_icmp .ne 6, 3) := by decide +kernel
theorem d_M_see_42 : decode b_M_see 42 = .ok (.bipush (-4), 2) := by decide +kernel
theorem d_M_see_44 : decode b_M_see 44 = .ok (.ireturn, 1) := by decide +kernel
theorem d_M_see_45 : decode b_M_see 45 = .ok (.aload_n 0, 1) := by decide +kernel
theorem d_M_see_46 : decode b_M_see 46 = .ok (.getfield 144, 3) := by decide +kernel
theorem d_M_see_49 : decode b_M_see 49 = .ok (.aload_n 0, 1) := by decide +kernel
theorem d_M_see_50 : decode b_M_see 50 = .ok (.getfield 141, 3) := by decide +kernel
theorem d_M_see_53 : decode b_M_see 53 = .ok (.iload_n 1, 1) := by decide +kernel
theorem d_M_see_54 : decode b_M_see 54 = .ok (.iastore, 1) := by decide +kernel
theorem d_M_see_55 : decode b_M_see 55 = .ok (.aload_n 0, 1) := by decide +kernel
theorem d_M_see_56 : decode b_M_see 56 = .ok (.getfield 147, 3) := by decide +kernel
theorem d_M_see_59 : decode b_M_see 59 = .ok (.aload_n 0, 1) := by decide +kernel
theorem d_M_see_60 : decode b_M_see 60 = .ok (.getfield 141, 3) := by decide +kernel
theorem d_M_see_63 : decode b_M_see 63 = .ok (.iload_n 2, 1) := by decide +kernel
theorem d_M_see_64 : decode b_M_see 64 = .ok (.iastore, 1) := by decide +kernel
theorem d_M_see_65 : decode b_M_see 65 = .ok (.aload_n 0, 1) := by decide +kernel
theorem d_M_see_66 : decode b_M_see 66 = .ok (.dup, 1) := by decide +kernel
theorem d_M_see_67 : decode b_M_see 67 = .ok (.getfield 141, 3) := by decide +kernel
theorem d_M_see_70 : decode b_M_see 70 = .ok (.iconst 1, 1) := by decide +kernel
theorem d_M_see_71 : decode b_M_see 71 = .ok (.iadd, 1) := by decide +kernel
theorem d_M_see_72 : decode b_M_see 72 = .ok (.putfield 141, 3) := by decide +kernel
theorem d_M_see_75 : decode b_M_see 75 = .ok (.aload_n 0, 1) := by decide +kernel
theorem d_M_see_76 : decode b_M_see 76 = .ok (.getfield 141, 3) := by decide +kernel
theorem d_M_see_79 : decode b_M_see 79 = .ok (.ireturn, 1) := by decide +kernel
set_option maxRecDepth 20000 in
theorem c_M_see_b0 {r : Int32} {wz : gW} (C : gC p s m args meth c "RidCoppersModel" b_M_see 3 (some .int) D cA oc B) (a0 : Nat) (a1 : Int32) (a2 : Int32) (w : gW) {ls : Array Slot} {H : Heap} {locs : List Loc} (hl : lv_has ls 3 [(0, .ref (B + a0)), (1, .int a1), (2, .int a2)]) (hf : f_M_see_b0 N a0 a1 a2 w = some (r, wz)) (hR : gRep D cA B w H) (hS : va_S (gA B) s.heap H locs) : W p l e ({ frames := 3, cells := 0, slots := 0, locals := 84 } : Room) s m args below meth c H locs 0 0 (MQ below (gQi D cA B r wz) args s 0 0 (gA B)) (F0 m 0 ls []) := by
  obtain ⟨hx, hb, hml, hown, hts, hr, hlocks, hK, hBs⟩ := id C
  unfold f_M_see_b0 at hf
  refine lv_iload_n hx hb d_M_see_0 rfl (lv_at hl 1 rfl) ?_
  refine lv_iconst (v := (-1)) hx hb d_M_see_1 (by decide) ?_
  refine lv_icmp_ne (tgt := 12) hx hb d_M_see_2 (by decide) (fun hc => ?_) (fun hc => ?_)
  · have hf := cd_f hc hf
    refine lv_aload_n hx hb d_M_see_12 rfl (lv_at hl 0 rfl) ?_
    refine lv_iload_n hx hb d_M_see_13 rfl (lv_at hl 1 rfl) ?_
    have ⟨h4, hf⟩ := gd_e hf
    have ⟨x1, w2, h3, hf⟩ := kl_e hf
    refine g_ki0 (g_rV (As := [.int a1]) (rest := []) hx hb hml hown hts hK hR hS (c_M_isPrice l D cA oc B N a0 a1 w h3) I_M_isPrice m_1344 mp_54 (gRecv hK hR (ci := 12) rfl h4) rfl rfl (Nat.le_of_ble_eq_true rfl) hl.1 ⟨Nat.le_of_ble_eq_true rfl, Nat.le_of_ble_eq_true rfl⟩ ⟨Nat.le_of_ble_eq_true rfl, Nat.le_of_ble_eq_true rfl⟩ d_M_see_14) hS (fun H locs hR hS => ?_)
    refine lv_if_eq (tgt := 31) hx hb d_M_see_17 (by decide) (fun hc => ?_) (fun hc => ?_)
    · have hf := cd_t hc hf
      refine lv_bipush (v := (-2)) hx hb d_M_see_31 (by decide) ?_
      exact g_iret hx hb hr hlocks hR hS hf rfl d_M_see_33
    have hf := cd_f hc hf
    refine lv_aload_n hx hb d_M_see_20 rfl (lv_at hl 0 rfl) ?_
    refine lv_iload_n hx hb d_M_see_21 rfl (lv_at hl 2 rfl) ?_
    refine lv_iconst (v := 0) hx hb d_M_see_22 (by decide) ?_
    refine lv_bipush (v := 99) hx hb d_M_see_23 (by decide) ?_
    have ⟨h8, hf⟩ := gd_e hf
    have ⟨x5, w6, h7, hf⟩ := kl_e hf
    refine g_ki0 (g_rV (As := [.int a2, .int 0, .int 99]) (rest := []) hx hb hml hown hts hK hR hS (c_M_in l D cA oc B N a0 a2 0 99 w2 h7) I_M_in m_1204 mp_27 (gRecv hK hR (ci := 12) rfl h8) rfl rfl (Nat.le_of_ble_eq_true rfl) hl.1 ⟨Nat.le_of_ble_eq_true rfl, Nat.le_of_ble_eq_true rfl⟩ ⟨Nat.le_of_ble_eq_true rfl, Nat.le_of_ble_eq_true rfl⟩ d_M_see_25) hS (fun H locs hR hS => ?_)
    refine lv_if_ne (tgt := 34) hx hb d_M_see_28 (by decide) (fun hc => ?_) (fun hc => ?_)
    · have hf := cd_f hc hf
      refine lv_aload_n hx hb d_M_see_34 rfl (lv_at hl 0 rfl) ?_
      have ⟨h9, hf⟩ := gd_e hf
      refine g_getI hx hb hts hown hK hR fl_M_141 (fun _ => rfl) h9 d_M_see_35 ?_
      refine g_nI hf (fun x10 hf => ?_)
      refine lv_iconst (v := 4) hx hb d_M_see_38 (by decide) ?_
      refine lv_icmp_ne (tgt := 45) hx hb d_M_see_39 (by decide) (fun hc => ?_) (fun hc => ?_)
      · have hf := cd_f hc hf
        refine lv_aload_n hx hb d_M_see_45 rfl (lv_at hl 0 rfl) ?_
        have ⟨x11, h12, hf⟩ := rr_e hf
        refine g_getR hx hb hts hown hK hR fl_M_144 (fun _ => rfl) h9 h12 d_M_see_46 ?_
        refine lv_aload_n hx hb d_M_see_49 rfl (lv_at hl 0 rfl) ?_
        refine g_getI hx hb hts hown hK hR fl_M_141 (fun _ => rfl) h9 d_M_see_50 ?_
        refine g_nI hf (fun x13 hf => ?_)
        refine lv_iload_n hx hb d_M_see_53 rfl (lv_at hl 1 rfl) ?_
        have ⟨h14, hf⟩ := gd_e hf
        have ⟨h15, hf⟩ := gd_e hf
        refine g_iast hx hb hK hR hS h14 h15 d_M_see_54 (fun H locs hR hS => ?_)
        refine g_nW hf hR (fun w16 hf hR => ?_)
        refine lv_aload_n hx hb d_M_see_55 rfl (lv_at hl 0 rfl) ?_
        have ⟨h17, hf⟩ := gd_e hf
        have ⟨x18, h19, hf⟩ := rr_e hf
        refine g_getR hx hb hts hown hK hR fl_M_147 (fun _ => rfl) h17 h19 d_M_see_56 ?_
        refine lv_aload_n hx hb d_M_see_59 rfl (lv_at hl 0 rfl) ?_
        refine g_getI hx hb hts hown hK hR fl_M_141 (fun _ => rfl) h17 d_M_see_60 ?_
        refine g_nI hf (fun x20 hf => ?_)
        refine lv_iload_n hx hb d_M_see_63 rfl (lv_at hl 2 rfl) ?_
        have ⟨h21, hf⟩ := gd_e hf
        have ⟨h22, hf⟩ := gd_e hf
        refine g_iast hx hb hK hR hS h21 h22 d_M_see_64 (fun H locs hR hS => ?_)
        refine g_nW hf hR (fun w23 hf hR => ?_)
        refine lv_aload_n hx hb d_M_see_65 rfl (lv_at hl 0 rfl) ?_
        refine lv_dup hx hb d_M_see_66 rfl ?_
        have ⟨h24, hf⟩ := gd_e hf
        refine g_getI hx hb hts hown hK hR fl_M_141 (fun _ => rfl) h24 d_M_see_67 ?_
        refine g_nI hf (fun x25 hf => ?_)
        refine lv_iconst (v := 1) hx hb d_M_see_70 (by decide) ?_
        refine lv_iadd hx hb d_M_see_71 ?_
        refine g_nI hf (fun x26 hf => ?_)
        refine g_putI hx hb hts hown hK hR hS pf_M_141 (fun _ => rfl) rfl rfl h24 d_M_see_72 (fun H locs hR hS => ?_)
        refine g_nW hf hR (fun w27 hf hR => ?_)
        refine lv_aload_n hx hb d_M_see_75 rfl (lv_at hl 0 rfl) ?_
        have ⟨h28, hf⟩ := gd_e hf
        refine g_getI hx hb hts hown hK hR fl_M_141 (fun _ => rfl) h28 d_M_see_76 ?_
        refine g_nI hf (fun x29 hf => ?_)
        exact g_iret hx hb hr hlocks hR hS hf rfl d_M_see_79
      have hf := cd_t hc hf
      refine lv_bipush (v := (-4)) hx hb d_M_see_42 (by decide) ?_
      exact g_iret hx hb hr hlocks hR hS hf rfl d_M_see_44
    have hf := cd_t hc hf
    refine lv_bipush (v := (-2)) hx hb d_M_see_31 (by decide) ?_
    exact g_iret hx hb hr hlocks hR hS hf rfl d_M_see_33
  have hf := cd_t hc hf
  refine lv_aload_n hx hb d_M_see_5 rfl (lv_at hl 0 rfl) ?_
  refine lv_iconst (v := 0) hx hb d_M_see_6 (by decide) ?_
  have ⟨h30, hf⟩ := gd_e hf
  refine g_putI hx hb hts hown hK hR hS pf_M_141 (fun _ => rfl) rfl rfl h30 d_M_see_7 (fun H locs hR hS => ?_)
  refine g_nW hf hR (fun w31 hf hR => ?_)
  refine lv_iconst (v := 0) hx hb d_M_see_10 (by decide) ?_
  exact g_iret hx hb hr hlocks hR hS hf rfl d_M_see_11
theorem c_M_see (l : Launch) (D : va_G) (cA : Nat → ClassId) (oc : gO) (B N : Nat) (a0 : Nat) (a1 : Int32) (a2 : Int32) (w : gW) {wz : gW} {r : Int32} (hf : f_M_see N a0 a1 a2 w = some (r, wz)) : Met l y_M_see (Cond.code y_M_see b_M_see 3 (some .int) :: lw_good) ({ frames := 3, cells := 0, slots := 0, locals := 84 } : Room) (gPre D cA oc B [.ref (B + a0), .int a1, .int a2] w) (gQi D cA B r wz) 0 0 (gA B) := by
  refine Met.ofW (cc := b_M_see) (maxL := 3) (ret := (some .int)) (by decide +kernel) rfl ?_
  intro p e s m args below meth c s₁ Bd hml hv
  obtain ⟨hargs, C, hR⟩ := gC.enter (l := l) rfl Bd hml hv
  subst hargs
  have hl := lv_entry ([.ref (B + a0), .int a1, .int a2]) (n := 3) (Nat.le_of_ble_eq_true rfl)
  rw [lg_entry_eq]
  generalize (lg_sl ([.ref (B + a0), .int a1, .int a2]) ++ List.replicate (3 - (lg_sl ([.ref (B + a0), .int a1, .int a2])).length) Slot.unset).toArray = ls at hl ⊢
  have hl : lv_has ls 3 [(0, .ref (B + a0)), (1, .int a1), (2, .int a2)] := hl
  exact c_M_see_b0 C a0 a1 a2 w (lv_sub hl [0, 1, 2] rfl) hf hR va_S.rf
theorem d_M_fits_0 : decode b_M_fits 0 = .ok (.iconst 0, 1) := by decide +kernel
theorem d_M_fits_1 : decode b_M_fits 1 = .ok (.istore_n 1, 1) := by decide +kernel
theorem d_M_fits_2 : decode b_M_fits 2 = .ok (.iconst 0, 1) := by decide +kernel
theorem d_M_fits_3 : decode b_M_fits 3 = .ok (.istore_n 2, 1) := by decide +kernel
theorem d_M_fits_4 : decode b_M_fits 4 = .ok (.iload_n 2, 1) := by decide +kernel
theorem d_M_fits_5 : decode b_M_fits 5 = .ok (.aload_n 0, 1) := by decide +kernel
theorem d_M_fits_6 : decode b_M_fits 6 = .ok (.getfield 7, 3) := by decide +kernel
theorem d_M_fits_9 : decode b_M_fits 9 = .ok (.if_icmp .ge 82, 3) := by decide +kernel
theorem d_M_fits_12 : decode b_M_fits 12 = .ok (.iconst 1, 1) := by decide +kernel
theorem d_M_fits_13 : decode b_M_fits 13 = .ok (.istore_n 3, 1) := by decide +kernel
theorem d_M_fits_14 : decode b_M_fits 14 = .ok (.iconst 0, 1) := by decide +kernel
theorem d_M_fits_15 : decode b_M_fits 15 = .ok (.istore 4, 2) := by decide +kernel
theorem d_M_fits_17 : decode b_M_fits 17 = .ok (.iload 4, 2) := by decide +kernel
theorem d_M_fits_19 : decode b_M_fits 19 = .ok (.aload_n 0, 1) := by decide +kernel
theorem d_M_fits_20 : decode b_M_fits 20 = .ok (.getfield 141, 3) := by decide +kernel
theorem d_M_fits_23 : decode b_M_fits 23 = .ok (.if_icmp .ge 48, 3) := by decide +kernel
theorem d_M_fits_26 : decode b_M_fits 26 = .ok (.iload_n 3, 1) := by decide +kernel
theorem d_M_fits_27 : decode b_M_fits 27 = .ok (.ifCond .eq 44, 3) := by decide +kernel
theorem d_M_fits_30 : decode b_M_fits 30 = .ok (.aload_n 0, 1) := by decide +kernel
theorem d_M_fits_31 : decode b_M_fits 31 = .ok (.iload_n 2, 1) := by decide +kernel
theorem d_M_fits_32 : decode b_M_fits 32 = .ok (.aload_n 0, 1) := by decide +kernel
theorem d_M_fits_33 : decode b_M_fits 33 = .ok (.getfield 144, 3) := by decide +kernel
theorem d_M_fits_36 : decode b_M_fits 36 = .ok (.iload 4, 2) := by decide +kernel
theorem d_M_fits_38 : decode b_M_fits 38 = .ok (.iaload, 1) := by decide +kernel
theorem d_M_fits_39 : decode b_M_fits 39 = .ok (.invokevirtual 363, 3) := by decide +kernel
theorem d_M_fits_42 : decode b_M_fits 42 = .ok (.ifCond .eq 21, 3) := by decide +kernel
theorem d_M_fits_45 : decode b_M_fits 45 = .ok (.aload_n 0, 1) := by decide +kernel
theorem d_M_fits_46 : decode b_M_fits 46 = .ok (.getfield 129, 3) := by decide +kernel
theorem d_M_fits_49 : decode b_M_fits 49 = .ok (.aload_n 0, 1) := by decide +kernel
theorem d_M_fits_50 : decode b_M_fits 50 = .ok (.getfield 147, 3) := by decide +kernel
theorem d_M_fits_53 : decode b_M_fits 53 = .ok (.iload 4, 2) := by decide +kernel
theorem d_M_fits_55 : decode b_M_fits 55 = .ok (.iaload, 1) := by decide +kernel
theorem d_M_fits_56 : decode b_M_fits 56 = .ok (.if_icmp .ne 7, 3) := by decide +kernel
theorem d_M_fits_59 : decode b_M_fits 59 = .ok (.iconst 1, 1) := by decide +kernel
theorem d_M_fits_60 : decode b_M_fits 60 = .ok (.goto 4, 3) := by decide +kernel
theorem d_M_fits_63 : decode b_M_fits 63 = .ok (.iconst 0, 1) := by decide +kernel
theorem d_M_fits_64 : decode b_M_fits 64 = .ok (.istore_n 3, 1) := by decide +kernel
theorem d_M_fits_65 : decode b_M_fits 65 = .ok (.iinc 4 1, 3) := by decide +kernel
theorem d_M_fits_68 : decode b_M_fits 68 = .ok (.goto (-51), 3) := by decide +kernel
theorem d_M_fits_71 : decode b_M_fits 71 = .ok (.iload_n 1, 1) := by decide +kernel
theorem d_M_fits_72 : decode b_M_fits 72 = .ok (.iload_n 3, 1) := by decide +kernel
theorem d_M_fits_73 : decode b_M_fits 73 = .ok (.ifCond .eq 9, 3) := by decide +kernel
theorem d_M_fits_76 : decode b_M_fits 76 = .ok (.iconst 1, 1) := by decide +kernel
theorem d_M_fits_77 : decode b_M_fits 77 = .ok (.iload_n 2, 1) := by decide +kernel
theorem d_M_fits_78 : decode b_M_fits 78 = .ok (.ishl, 1) := by decide +kernel
theorem d_M_fits_79 : decode b_M_fits 79 = .ok (.goto 4, 3) := by decide +kernel
theorem d_M_fits_82 : decode b_M_fits 82 = .ok (.iconst 0, 1) := by decide +kernel
theorem d_M_fits_83 : decode b_M_fits 83 = .ok (.ior, 1) := by decide +kernel
theorem d_M_fits_84 : decode b_M_fits 84 = .ok (.istore_n 1, 1) := by decide +kernel
theorem d_M_fits_85 : decode b_M_fits 85 = .ok (.iinc 2 1, 3) := by decide +kernel
theorem d_M_fits_88 : decode b_M_fits 88 = .ok (.goto (-84), 3) := by decide +kernel
theorem d_M_fits_91 : decode b_M_fits 91 = .ok (.iload_n 1, 1) := by decide +kernel
theorem d_M_fits_92 : decode b_M_fits 92 = .ok (.ireturn, 1) := by decide +kernel
set_option maxRecDepth 20000 in
theorem c_M_fits_b71 {r : Int32} {wz : gW} {rec4 : Nat × Int32 × Int32 × gW → Option (Int32 × gW)} (ih4 : ∀ (a0 : Nat) (a1 : Int32) (a2 : Int32) (w : gW) (ls : Array Slot) (H : Heap) (locs : List Loc), rec4 (a0, a1, a2, w) = some (r, wz) → lv_has ls 5 [(0, .ref (B + a0)), (1, .int a1), (2, .int a2)] → gRep D cA B w H → va_S (gA B) s.heap H locs → W p l e ({ frames := 9, cells := 0, slots := 0, locals := 236 } : Room) s m args below meth c H locs 0 0 (MQ below (gQi D cA B r wz) args s 0 0 (gA B)) (F0 m 4 ls [])) (C : gC p s m args meth c "RidCoppersModel" b_M_fits 5 (some .int) D cA oc B) (a0 : Nat) (a1 : Int32) (a2 : Int32) (a3 : Int32) (w : gW) {ls : Array Slot} {H : Heap} {locs : List Loc} (hl : lv_has ls 5 [(0, .ref (B + a0)), (1, .int a1), (2, .int a2), (3, .int a3)]) (hf : f_M_fits_b71 N rec4 a0 a1 a2 a3 w = some (r, wz)) (hR : gRep D cA B w H) (hS : va_S (gA B) s.heap H locs) : W p l e ({ frames := 9, cells := 0, slots := 0, locals := 236 } : Room) s m args below meth c H locs 0 0 (MQ below (gQi D cA B r wz) args s 0 0 (gA B)) (F0 m 71 ls []) := by
  obtain ⟨hx, hb, hml, hown, hts, hr, hlocks, hK, hBs⟩ := id C
  unfold f_M_fits_b71 at hf
  refine lv_iload_n hx hb d_M_fits_71 rfl (lv_at hl 1 rfl) ?_
  refine lv_iload_n hx hb d_M_fits_72 rfl (lv_at hl 3 rfl) ?_
  refine lv_if_eq (tgt := 82) hx hb d_M_fits_73 (by decide) (fun hc => ?_) (fun hc => ?_)
  · have hf := cd_t hc hf
    refine lv_iconst (v := 0) hx hb d_M_fits_82 (by decide) ?_
    refine lv_ior hx hb d_M_fits_83 ?_
    refine g_nI hf (fun x5 hf => ?_)
    refine lv_istore_n (lv' := [(1, .int x5), (0, .ref (B + a0)), (2, .int a2), (3, .int a3)]) hx hb d_M_fits_84 rfl hl (by decide) rfl (fun ls hl => ?_)
    refine g_iinc (lv' := fun x6 => [(2, .int x6), (1, .int x5), (0, .ref (B + a0)), (3, .int a3)]) hf hx hb d_M_fits_85 hl (k := 2) rfl (by decide) (by decide) (fun _ => rfl) (fun x6 ls hf hl => ?_)
    refine lv_goto (tgt := 4) hx hb d_M_fits_88 (by decide) ?_
    exact ih4 a0 x5 x6 w _ _ _ hf (lv_sub hl [2, 1, 0] rfl) hR hS
  have hf := cd_f hc hf
  refine lv_iconst (v := 1) hx hb d_M_fits_76 (by decide) ?_
  refine lv_iload_n hx hb d_M_fits_77 rfl (lv_at hl 2 rfl) ?_
  refine lv_ishl hx hb d_M_fits_78 ?_
  refine g_nI hf (fun x7 hf => ?_)
  refine lv_goto (tgt := 83) hx hb d_M_fits_79 (by decide) ?_
  refine lv_ior hx hb d_M_fits_83 ?_
  refine g_nI hf (fun x8 hf => ?_)
  refine lv_istore_n (lv' := [(1, .int x8), (0, .ref (B + a0)), (2, .int a2), (3, .int a3)]) hx hb d_M_fits_84 rfl hl (by decide) rfl (fun ls hl => ?_)
  refine g_iinc (lv' := fun x9 => [(2, .int x9), (1, .int x8), (0, .ref (B + a0)), (3, .int a3)]) hf hx hb d_M_fits_85 hl (k := 2) rfl (by decide) (by decide) (fun _ => rfl) (fun x9 ls hf hl => ?_)
  refine lv_goto (tgt := 4) hx hb d_M_fits_88 (by decide) ?_
  exact ih4 a0 x8 x9 w _ _ _ hf (lv_sub hl [2, 1, 0] rfl) hR hS
set_option maxRecDepth 20000 in
theorem c_M_fits_b17 {r : Int32} {wz : gW} {rec4 : Nat × Int32 × Int32 × gW → Option (Int32 × gW)} (ih4 : ∀ (a0 : Nat) (a1 : Int32) (a2 : Int32) (w : gW) (ls : Array Slot) (H : Heap) (locs : List Loc), rec4 (a0, a1, a2, w) = some (r, wz) → lv_has ls 5 [(0, .ref (B + a0)), (1, .int a1), (2, .int a2)] → gRep D cA B w H → va_S (gA B) s.heap H locs → W p l e ({ frames := 9, cells := 0, slots := 0, locals := 236 } : Room) s m args below meth c H locs 0 0 (MQ below (gQi D cA B r wz) args s 0 0 (gA B)) (F0 m 4 ls [])) {rec17 : Nat × Int32 × Int32 × Int32 × Int32 × gW → Option (Int32 × gW)} (ih17 : ∀ (a0 : Nat) (a1 : Int32) (a2 : Int32) (a3 : Int32) (a4 : Int32) (w : gW) (ls : Array Slot) (H : Heap) (locs : List Loc), rec17 (a0, a1, a2, a3, a4, w) = some (r, wz) → lv_has ls 5 [(0, .ref (B + a0)), (1, .int a1), (2, .int a2), (3, .int a3), (4, .int a4)] → gRep D cA B w H → va_S (gA B) s.heap H locs → W p l e ({ frames := 9, cells := 0, slots := 0, locals := 236 } : Room) s m args below meth c H locs 0 0 (MQ below (gQi D cA B r wz) args s 0 0 (gA B)) (F0 m 17 ls [])) (C : gC p s m args meth c "RidCoppersModel" b_M_fits 5 (some .int) D cA oc B) (a0 : Nat) (a1 : Int32) (a2 : Int32) (a3 : Int32) (a4 : Int32) (w : gW) {ls : Array Slot} {H : Heap} {locs : List Loc} (hl : lv_has ls 5 [(0, .ref (B + a0)), (1, .int a1), (2, .int a2), (3, .int a3), (4, .int a4)]) (hf : f_M_fits_b17 N rec4 rec17 a0 a1 a2 a3 a4 w = some (r, wz)) (hR : gRep D cA B w H) (hS : va_S (gA B) s.heap H locs) : W p l e ({ frames := 9, cells := 0, slots := 0, locals := 236 } : Room) s m args below meth c H locs 0 0 (MQ below (gQi D cA B r wz) args s 0 0 (gA B)) (F0 m 17 ls []) := by
  obtain ⟨hx, hb, hml, hown, hts, hr, hlocks, hK, hBs⟩ := id C
  unfold f_M_fits_b17 at hf
  refine lv_iload hx hb d_M_fits_17 (lv_at hl 4 rfl) ?_
  refine lv_aload_n hx hb d_M_fits_19 rfl (lv_at hl 0 rfl) ?_
  have ⟨h3, hf⟩ := gd_e hf
  refine g_getI hx hb hts hown hK hR fl_M_141 (fun _ => rfl) h3 d_M_fits_20 ?_
  refine g_nI hf (fun x4 hf => ?_)
  refine lv_icmp_ge (tgt := 71) hx hb d_M_fits_23 (by decide) (fun hc => ?_) (fun hc => ?_)
  · have hf := cd_t hc hf
    exact c_M_fits_b71 ih4 C a0 a1 a2 a3 w (lv_sub hl [0, 1, 2, 3] rfl) hf hR hS
  have hf := cd_f hc hf
  refine lv_iload_n hx hb d_M_fits_26 rfl (lv_at hl 3 rfl) ?_
  refine lv_if_eq (tgt := 71) hx hb d_M_fits_27 (by decide) (fun hc => ?_) (fun hc => ?_)
  · have hf := cd_t hc hf
    exact c_M_fits_b71 ih4 C a0 a1 a2 a3 w (lv_sub hl [0, 1, 2, 3] rfl) hf hR hS
  have hf := cd_f hc hf
  refine lv_aload_n hx hb d_M_fits_30 rfl (lv_at hl 0 rfl) ?_
  refine lv_iload_n hx hb d_M_fits_31 rfl (lv_at hl 2 rfl) ?_
  refine lv_aload_n hx hb d_M_fits_32 rfl (lv_at hl 0 rfl) ?_
  have ⟨x10, h11, hf⟩ := rr_e hf
  refine g_getR hx hb hts hown hK hR fl_M_144 (fun _ => rfl) h3 h11 d_M_fits_33 ?_
  refine lv_iload hx hb d_M_fits_36 (lv_at hl 4 rfl) ?_
  have ⟨h12, hf⟩ := gd_e hf
  have ⟨h13, hf⟩ := gd_e hf
  refine g_iald hx hb hK hR h12 h13 d_M_fits_38 ?_
  refine g_nI hf (fun x14 hf => ?_)
  have ⟨x15, w16, h17, hf⟩ := kl_e hf
  refine g_ki0 (g_rV (As := [.int a2, .int x14]) (rest := []) hx hb hml hown hts hK hR hS (c_M_could l D cA oc B N a0 a2 x14 w h17) I_M_could m_1396 mp_66 (gRecv hK hR (ci := 12) rfl h3) rfl rfl (Nat.le_of_ble_eq_true rfl) hl.1 ⟨Nat.le_of_ble_eq_true rfl, Nat.le_of_ble_eq_true rfl⟩ ⟨Nat.le_of_ble_eq_true rfl, Nat.le_of_ble_eq_true rfl⟩ d_M_fits_39) hS (fun H locs hR hS => ?_)
  refine lv_if_eq (tgt := 63) hx hb d_M_fits_42 (by decide) (fun hc => ?_) (fun hc => ?_)
  · have hf := cd_t hc hf
    refine lv_iconst (v := 0) hx hb d_M_fits_63 (by decide) ?_
    refine lv_istore_n (lv' := [(3, .int 0), (0, .ref (B + a0)), (1, .int a1), (2, .int a2), (4, .int a4)]) hx hb d_M_fits_64 rfl hl (by decide) rfl (fun ls hl => ?_)
    refine g_iinc (lv' := fun x18 => [(4, .int x18), (3, .int 0), (0, .ref (B + a0)), (1, .int a1), (2, .int a2)]) hf hx hb d_M_fits_65 hl (k := 4) rfl (by decide) (by decide) (fun _ => rfl) (fun x18 ls hf hl => ?_)
    refine lv_goto (tgt := 17) hx hb d_M_fits_68 (by decide) ?_
    exact ih17 a0 a1 a2 0 x18 w16 _ _ _ hf (lv_sub hl [2, 3, 4, 1, 0] rfl) hR hS
  have hf := cd_f hc hf
  refine lv_aload_n hx hb d_M_fits_45 rfl (lv_at hl 0 rfl) ?_
  have ⟨h19, hf⟩ := gd_e hf
  refine g_getI hx hb hts hown hK hR fl_M_129 (fun _ => rfl) h19 d_M_fits_46 ?_
  refine g_nI hf (fun x20 hf => ?_)
  refine lv_aload_n hx hb d_M_fits_49 rfl (lv_at hl 0 rfl) ?_
  have ⟨x21, h22, hf⟩ := rr_e hf
  refine g_getR hx hb hts hown hK hR fl_M_147 (fun _ => rfl) h19 h22 d_M_fits_50 ?_
  refine lv_iload hx hb d_M_fits_53 (lv_at hl 4 rfl) ?_
  have ⟨h23, hf⟩ := gd_e hf
  have ⟨h24, hf⟩ := gd_e hf
  refine g_iald hx hb hK hR h23 h24 d_M_fits_55 ?_
  refine g_nI hf (fun x25 hf => ?_)
  refine lv_icmp_ne (tgt := 63) hx hb d_M_fits_56 (by decide) (fun hc => ?_) (fun hc => ?_)
  · have hf := cd_f hc hf
    refine lv_iconst (v := 0) hx hb d_M_fits_63 (by decide) ?_
    refine lv_istore_n (lv' := [(3, .int 0), (0, .ref (B + a0)), (1, .int a1), (2, .int a2), (4, .int a4)]) hx hb d_M_fits_64 rfl hl (by decide) rfl (fun ls hl => ?_)
    refine g_iinc (lv' := fun x26 => [(4, .int x26), (3, .int 0), (0, .ref (B + a0)), (1, .int a1), (2, .int a2)]) hf hx hb d_M_fits_65 hl (k := 4) rfl (by decide) (by decide) (fun _ => rfl) (fun x26 ls hf hl => ?_)
    refine lv_goto (tgt := 17) hx hb d_M_fits_68 (by decide) ?_
    exact ih17 a0 a1 a2 0 x26 w16 _ _ _ hf (lv_sub hl [2, 3, 4, 1, 0] rfl) hR hS
  have hf := cd_t hc hf
  refine lv_iconst (v := 1) hx hb d_M_fits_59 (by decide) ?_
  refine lv_goto (tgt := 64) hx hb d_M_fits_60 (by decide) ?_
  refine lv_istore_n (lv' := [(3, .int 1), (0, .ref (B + a0)), (1, .int a1), (2, .int a2), (4, .int a4)]) hx hb d_M_fits_64 rfl hl (by decide) rfl (fun ls hl => ?_)
  refine g_iinc (lv' := fun x27 => [(4, .int x27), (3, .int 1), (0, .ref (B + a0)), (1, .int a1), (2, .int a2)]) hf hx hb d_M_fits_65 hl (k := 4) rfl (by decide) (by decide) (fun _ => rfl) (fun x27 ls hf hl => ?_)
  refine lv_goto (tgt := 17) hx hb d_M_fits_68 (by decide) ?_
  exact ih17 a0 a1 a2 1 x27 w16 _ _ _ hf (lv_sub hl [2, 3, 4, 1, 0] rfl) hR hS
theorem c_M_fits_l17 {r : Int32} {wz : gW} {rec4 : Nat × Int32 × Int32 × gW → Option (Int32 × gW)} (ih4 : ∀ (a0 : Nat) (a1 : Int32) (a2 : Int32) (w : gW) (ls : Array Slot) (H : Heap) (locs : List Loc), rec4 (a0, a1, a2, w) = some (r, wz) → lv_has ls 5 [(0, .ref (B + a0)), (1, .int a1), (2, .int a2)] → gRep D cA B w H → va_S (gA B) s.heap H locs → W p l e ({ frames := 9, cells := 0, slots := 0, locals := 236 } : Room) s m args below meth c H locs 0 0 (MQ below (gQi D cA B r wz) args s 0 0 (gA B)) (F0 m 4 ls [])) (C : gC p s m args meth c "RidCoppersModel" b_M_fits 5 (some .int) D cA oc B) (a0 : Nat) (a1 : Int32) (a2 : Int32) (a3 : Int32) (a4 : Int32) (w : gW) {ls : Array Slot} {H : Heap} {locs : List Loc} (hl : lv_has ls 5 [(0, .ref (B + a0)), (1, .int a1), (2, .int a2), (3, .int a3), (4, .int a4)]) (hf : f_M_fits_l17 N rec4 a0 a1 a2 a3 a4 w = some (r, wz)) (hR : gRep D cA B w H) (hS : va_S (gA B) s.heap H locs) : W p l e ({ frames := 9, cells := 0, slots := 0, locals := 236 } : Room) s m args below meth c H locs 0 0 (MQ below (gQi D cA B r wz) args s 0 0 (gA B)) (F0 m 17 ls []) := by
  unfold f_M_fits_l17 at hf
  suffices hh : ∀ n : Nat, ∀ (a0 : Nat) (a1 : Int32) (a2 : Int32) (a3 : Int32) (a4 : Int32) (w : gW) (ls : Array Slot) (H : Heap) (locs : List Loc), itr (fun rec (q : Nat × Int32 × Int32 × Int32 × Int32 × gW) => f_M_fits_b17 N rec4 rec q.1 q.2.1 q.2.2.1 q.2.2.2.1 q.2.2.2.2.1 q.2.2.2.2.2) n (a0, a1, a2, a3, a4, w) = some (r, wz) → lv_has ls 5 [(0, .ref (B + a0)), (1, .int a1), (2, .int a2), (3, .int a3), (4, .int a4)] → gRep D cA B w H → va_S (gA B) s.heap H locs → W p l e ({ frames := 9, cells := 0, slots := 0, locals := 236 } : Room) s m args below meth c H locs 0 0 (MQ below (gQi D cA B r wz) args s 0 0 (gA B)) (F0 m 17 ls []) from hh N a0 a1 a2 a3 a4 w ls H locs hf hl hR hS
  intro n
  induction n with
  | zero => intro a0 a1 a2 a3 a4 w ls H locs hf; cases hf
  | succ n ihn =>
    intro a0 a1 a2 a3 a4 w ls H locs hf hl hR hS
    exact c_M_fits_b17 (N := N) ih4 ihn C a0 a1 a2 a3 a4 w hl ((itr_s _ _ _).symm.trans hf) hR hS
set_option maxRecDepth 20000 in
theorem c_M_fits_b4 {r : Int32} {wz : gW} {rec4 : Nat × Int32 × Int32 × gW → Option (Int32 × gW)} (ih4 : ∀ (a0 : Nat) (a1 : Int32) (a2 : Int32) (w : gW) (ls : Array Slot) (H : Heap) (locs : List Loc), rec4 (a0, a1, a2, w) = some (r, wz) → lv_has ls 5 [(0, .ref (B + a0)), (1, .int a1), (2, .int a2)] → gRep D cA B w H → va_S (gA B) s.heap H locs → W p l e ({ frames := 9, cells := 0, slots := 0, locals := 236 } : Room) s m args below meth c H locs 0 0 (MQ below (gQi D cA B r wz) args s 0 0 (gA B)) (F0 m 4 ls [])) (C : gC p s m args meth c "RidCoppersModel" b_M_fits 5 (some .int) D cA oc B) (a0 : Nat) (a1 : Int32) (a2 : Int32) (w : gW) {ls : Array Slot} {H : Heap} {locs : List Loc} (hl : lv_has ls 5 [(0, .ref (B + a0)), (1, .int a1), (2, .int a2)]) (hf : f_M_fits_b4 N rec4 a0 a1 a2 w = some (r, wz)) (hR : gRep D cA B w H) (hS : va_S (gA B) s.heap H locs) : W p l e ({ frames := 9, cells := 0, slots := 0, locals := 236 } : Room) s m args below meth c H locs 0 0 (MQ below (gQi D cA B r wz) args s 0 0 (gA B)) (F0 m 4 ls []) := by
  obtain ⟨hx, hb, hml, hown, hts, hr, hlocks, hK, hBs⟩ := id C
  unfold f_M_fits_b4 at hf
  refine lv_iload_n hx hb d_M_fits_4 rfl (lv_at hl 2 rfl) ?_
  refine lv_aload_n hx hb d_M_fits_5 rfl (lv_at hl 0 rfl) ?_
  have ⟨h1, hf⟩ := gd_e hf
  refine g_getI hx hb hts hown hK hR fl_M_7 (fun _ => rfl) h1 d_M_fits_6 ?_
  refine g_nI hf (fun x2 hf => ?_)
  refine lv_icmp_ge (tgt := 91) hx hb d_M_fits_9 (by decide) (fun hc => ?_) (fun hc => ?_)
  · have hf := cd_t hc hf
    refine lv_iload_n hx hb d_M_fits_91 rfl (lv_at hl 1 rfl) ?_
    exact g_iret hx hb hr hlocks hR hS hf rfl d_M_fits_92
  have hf := cd_f hc hf
  refine lv_iconst (v := 1) hx hb d_M_fits_12 (by decide) ?_
  refine lv_istore_n (lv' := [(3, .int 1), (0, .ref (B + a0)), (1, .int a1), (2, .int a2)]) hx hb d_M_fits_13 rfl hl (by decide) rfl (fun ls hl => ?_)
  refine lv_iconst (v := 0) hx hb d_M_fits_14 (by decide) ?_
  refine lv_istore (lv' := [(4, .int 0), (3, .int 1), (0, .ref (B + a0)), (1, .int a1), (2, .int a2)]) hx hb d_M_fits_15 hl (by decide) rfl (fun ls hl => ?_)
  exact c_M_fits_l17 ih4 C a0 a1 a2 1 0 w (lv_sub hl [2, 3, 4, 1, 0] rfl) hf hR hS
theorem c_M_fits_l4 {r : Int32} {wz : gW} (C : gC p s m args meth c "RidCoppersModel" b_M_fits 5 (some .int) D cA oc B) (a0 : Nat) (a1 : Int32) (a2 : Int32) (w : gW) {ls : Array Slot} {H : Heap} {locs : List Loc} (hl : lv_has ls 5 [(0, .ref (B + a0)), (1, .int a1), (2, .int a2)]) (hf : f_M_fits_l4 N a0 a1 a2 w = some (r, wz)) (hR : gRep D cA B w H) (hS : va_S (gA B) s.heap H locs) : W p l e ({ frames := 9, cells := 0, slots := 0, locals := 236 } : Room) s m args below meth c H locs 0 0 (MQ below (gQi D cA B r wz) args s 0 0 (gA B)) (F0 m 4 ls []) := by
  unfold f_M_fits_l4 at hf
  suffices hh : ∀ n : Nat, ∀ (a0 : Nat) (a1 : Int32) (a2 : Int32) (w : gW) (ls : Array Slot) (H : Heap) (locs : List Loc), itr (fun rec (q : Nat × Int32 × Int32 × gW) => f_M_fits_b4 N rec q.1 q.2.1 q.2.2.1 q.2.2.2) n (a0, a1, a2, w) = some (r, wz) → lv_has ls 5 [(0, .ref (B + a0)), (1, .int a1), (2, .int a2)] → gRep D cA B w H → va_S (gA B) s.heap H locs → W p l e ({ frames := 9, cells := 0, slots := 0, locals := 236 } : Room) s m args below meth c H locs 0 0 (MQ below (gQi D cA B r wz) args s 0 0 (gA B)) (F0 m 4 ls []) from hh N a0 a1 a2 w ls H locs hf hl hR hS
  intro n
  induction n with
  | zero => intro a0 a1 a2 w ls H locs hf; cases hf
  | succ n ihn =>
    intro a0 a1 a2 w ls H locs hf hl hR hS
    exact c_M_fits_b4 (N := N) ihn C a0 a1 a2 w hl ((itr_s _ _ _).symm.trans hf) hR hS
set_option maxRecDepth 20000 in
theorem c_M_fits_b0 {r : Int32} {wz : gW} (C : gC p s m args meth c "RidCoppersModel" b_M_fits 5 (some .int) D cA oc B) (a0 : Nat) (w : gW) {ls : Array Slot} {H : Heap} {locs : List Loc} (hl : lv_has ls 5 [(0, .ref (B + a0))]) (hf : f_M_fits_b0 N a0 w = some (r, wz)) (hR : gRep D cA B w H) (hS : va_S (gA B) s.heap H locs) : W p l e ({ frames := 9, cells := 0, slots := 0, locals := 236 } : Room) s m args below meth c H locs 0 0 (MQ below (gQi D cA B r wz) args s 0 0 (gA B)) (F0 m 0 ls []) := by
  obtain ⟨hx, hb, hml, hown, hts, hr, hlocks, hK, hBs⟩ := id C
  unfold f_M_fits_b0 at hf
  refine lv_iconst (v := 0) hx hb d_M_fits_0 (by decide) ?_
  refine lv_istore_n (lv' := [(1, .int 0), (0, .ref (B + a0))]) hx hb d_M_fits_1 rfl hl (by decide) rfl (fun ls hl => ?_)
  refine lv_iconst (v := 0) hx hb d_M_fits_2 (by decide) ?_
  refine lv_istore_n (lv' := [(2, .int 0), (1, .int 0), (0, .ref (B + a0))]) hx hb d_M_fits_3 rfl hl (by decide) rfl (fun ls hl => ?_)
  exact c_M_fits_l4 C a0 0 0 w (lv_sub hl [2, 1, 0] rfl) hf hR hS
theorem c_M_fits (l : Launch) (D : va_G) (cA : Nat → ClassId) (oc : gO) (B N : Nat) (a0 : Nat) (w : gW) {wz : gW} {r : Int32} (hf : f_M_fits N a0 w = some (r, wz)) : Met l y_M_fits (Cond.code y_M_fits b_M_fits 5 (some .int) :: lw_good) ({ frames := 9, cells := 0, slots := 0, locals := 236 } : Room) (gPre D cA oc B [.ref (B + a0)] w) (gQi D cA B r wz) 0 0 (gA B) := by
  refine Met.ofW (cc := b_M_fits) (maxL := 5) (ret := (some .int)) (by decide +kernel) rfl ?_
  intro p e s m args below meth c s₁ Bd hml hv
  obtain ⟨hargs, C, hR⟩ := gC.enter (l := l) rfl Bd hml hv
  subst hargs
  have hl := lv_entry ([.ref (B + a0)]) (n := 5) (Nat.le_of_ble_eq_true rfl)
  rw [lg_entry_eq]
  generalize (lg_sl ([.ref (B + a0)]) ++ List.replicate (5 - (lg_sl ([.ref (B + a0)])).length) Slot.unset).toArray = ls at hl ⊢
  have hl : lv_has ls 5 [(0, .ref (B + a0))] := hl
  exact c_M_fits_b0 C a0 w (lv_sub hl [0] rfl) hf hR va_S.rf
theorem d_M_divisor_0 : decode b_M_divisor 0 = .ok (.iload_n 1, 1) := by decide +kernel
theorem d_M_divisor_1 : decode b_M_divisor 1 = .ok (.istore_n 3, 1) := by decide +kernel
theorem d_M_divisor_2 : decode b_M_divisor 2 = .ok (.iload_n 2, 1) := by decide +kernel
theorem d_M_divisor_3 : decode b_M_divisor 3 = .ok (.istore 4, 2) := by decide +kernel
theorem d_M_divisor_5 : decode b_M_divisor 5 = .ok (.iload 4, 2) := by decide +kernel
theorem d_M_divisor_7 : decode b_M_divisor 7 = .ok (.ifCond .eq 19, 3) := by decide +kernel
theorem d_M_divisor_10 : decode b_M_divisor 10 = .ok (.iload_n 3, 1) := by decide +kernel
theorem d_M_divisor_11 : decode b_M_divisor 11 = .ok (.iload 4, 2) := by decide +kernel
theorem d_M_divisor_13 : decode b_M_divisor 13 = .ok (.irem, 1) := by decide +kernel
theorem d_M_divisor_14 : decode b_M_divisor 14 = .ok (.istore 5, 2) := by decide +kernel
theorem d_M_divisor_16 : decode b_M_divisor 16 = .ok (.iload 4, 2) := by decide +kernel
theorem d_M_divisor_18 : decode b_M_divisor 18 = .ok (.istore_n 3, 1) := by decide +kernel
theorem d_M_divisor_19 : decode b_M_divisor 19 = .ok (.iload 5, 2) := by decide +kernel
theorem d_M_divisor_21 : decode b_M_divisor 21 = .ok (.istore 4, 2) := by decide +kernel
theorem d_M_divisor_23 : decode b_M_divisor 23 = .ok (.goto (-18), 3) := by decide +kernel
theorem d_M_divisor_26 : decode b_M_divisor 26 = .ok (.iload_n 3, 1) := by decide +kernel
theorem d_M_divisor_27 : decode b_M_divisor 27 = .ok (.ireturn, 1) := by decide +kernel
set_option maxRecDepth 20000 in
theorem c_M_divisor_b5 {r : Int32} {wz : gW} {rec5 : Int32 × Int32 × gW → Option (Int32 × gW)} (ih5 : ∀ (a3 : Int32) (a4 : Int32) (w : gW) (ls : Array Slot) (H : Heap) (locs : List Loc), rec5 (a3, a4, w) = some (r, wz) → lv_has ls 6 [(3, .int a3), (4, .int a4)] → gRep D cA B w H → va_S (gA B) s.heap H locs → W p l e ({ frames := 1, cells := 0, slots := 0, locals := 40 } : Room) s m args below meth c H locs 0 0 (MQ below (gQi D cA B r wz) args s 0 0 (gA B)) (F0 m 5 ls [])) (C : gC p s m args meth c "RidCoppersModel" b_M_divisor 6 (some .int) D cA oc B) (a3 : Int32) (a4 : Int32) (w : gW) {ls : Array Slot} {H : Heap} {locs : List Loc} (hl : lv_has ls 6 [(3, .int a3), (4, .int a4)]) (hf : f_M_divisor_b5 N rec5 a3 a4 w = some (r, wz)) (hR : gRep D cA B w H) (hS : va_S (gA B) s.heap H locs) : W p l e ({ frames := 1, cells := 0, slots := 0, locals := 40 } : Room) s m args below meth c H locs 0 0 (MQ below (gQi D cA B r wz) args s 0 0 (gA B)) (F0 m 5 ls []) := by
  obtain ⟨hx, hb, hml, hown, hts, hr, hlocks, hK, hBs⟩ := id C
  unfold f_M_divisor_b5 at hf
  refine lv_iload hx hb d_M_divisor_5 (lv_at hl 1 rfl) ?_
  refine lv_if_eq (tgt := 26) hx hb d_M_divisor_7 (by decide) (fun hc => ?_) (fun hc => ?_)
  · have hf := cd_t hc hf
    refine lv_iload_n hx hb d_M_divisor_26 rfl (lv_at hl 0 rfl) ?_
    exact g_iret hx hb hr hlocks hR hS hf rfl d_M_divisor_27
  have hf := cd_f hc hf
  refine lv_iload_n hx hb d_M_divisor_10 rfl (lv_at hl 0 rfl) ?_
  refine lv_iload hx hb d_M_divisor_11 (lv_at hl 1 rfl) ?_
  have ⟨h1, hf⟩ := gd_e hf
  refine lv_irem hx hb d_M_divisor_13 h1 ?_
  refine g_nI hf (fun x2 hf => ?_)
  refine lv_istore (lv' := [(5, .int x2), (3, .int a3), (4, .int a4)]) hx hb d_M_divisor_14 hl (by decide) rfl (fun ls hl => ?_)
  refine lv_iload hx hb d_M_divisor_16 (lv_at hl 2 rfl) ?_
  refine lv_istore_n (lv' := [(3, .int a4), (5, .int x2), (4, .int a4)]) hx hb d_M_divisor_18 rfl hl (by decide) rfl (fun ls hl => ?_)
  refine lv_iload hx hb d_M_divisor_19 (lv_at hl 1 rfl) ?_
  refine lv_istore (lv' := [(4, .int x2), (3, .int a4), (5, .int x2)]) hx hb d_M_divisor_21 hl (by decide) rfl (fun ls hl => ?_)
  refine lv_goto (tgt := 5) hx hb d_M_divisor_23 (by decide) ?_
  exact ih5 a4 x2 w _ _ _ hf (lv_sub hl [1, 0] rfl) hR hS
theorem c_M_divisor_l5 {r : Int32} {wz : gW} (C : gC p s m args meth c "RidCoppersModel" b_M_divisor 6 (some .int) D cA oc B) (a3 : Int32) (a4 : Int32) (w : gW) {ls : Array Slot} {H : Heap} {locs : List Loc} (hl : lv_has ls 6 [(3, .int a3), (4, .int a4)]) (hf : f_M_divisor_l5 N a3 a4 w = some (r, wz)) (hR : gRep D cA B w H) (hS : va_S (gA B) s.heap H locs) : W p l e ({ frames := 1, cells := 0, slots := 0, locals := 40 } : Room) s m args below meth c H locs 0 0 (MQ below (gQi D cA B r wz) args s 0 0 (gA B)) (F0 m 5 ls []) := by
  unfold f_M_divisor_l5 at hf
  suffices hh : ∀ n : Nat, ∀ (a3 : Int32) (a4 : Int32) (w : gW) (ls : Array Slot) (H : Heap) (locs : List Loc), itr (fun rec (q : Int32 × Int32 × gW) => f_M_divisor_b5 N rec q.1 q.2.1 q.2.2) n (a3, a4, w) = some (r, wz) → lv_has ls 6 [(3, .int a3), (4, .int a4)] → gRep D cA B w H → va_S (gA B) s.heap H locs → W p l e ({ frames := 1, cells := 0, slots := 0, locals := 40 } : Room) s m args below meth c H locs 0 0 (MQ below (gQi D cA B r wz) args s 0 0 (gA B)) (F0 m 5 ls []) from hh N a3 a4 w ls H locs hf hl hR hS
  intro n
  induction n with
  | zero => intro a3 a4 w ls H locs hf; cases hf
  | succ n ihn =>
    intro a3 a4 w ls H locs hf hl hR hS
    exact c_M_divisor_b5 (N := N) ihn C a3 a4 w hl ((itr_s _ _ _).symm.trans hf) hR hS
set_option maxRecDepth 20000 in
theorem c_M_divisor_b0 {r : Int32} {wz : gW} (C : gC p s m args meth c "RidCoppersModel" b_M_divisor 6 (some .int) D cA oc B) (a1 : Int32) (a2 : Int32) (w : gW) {ls : Array Slot} {H : Heap} {locs : List Loc} (hl : lv_has ls 6 [(1, .int a1), (2, .int a2)]) (hf : f_M_divisor_b0 N a1 a2 w = some (r, wz)) (hR : gRep D cA B w H) (hS : va_S (gA B) s.heap H locs) : W p l e ({ frames := 1, cells := 0, slots := 0, locals := 40 } : Room) s m args below meth c H locs 0 0 (MQ below (gQi D cA B r wz) args s 0 0 (gA B)) (F0 m 0 ls []) := by
  obtain ⟨hx, hb, hml, hown, hts, hr, hlocks, hK, hBs⟩ := id C
  unfold f_M_divisor_b0 at hf
  refine lv_iload_n hx hb d_M_divisor_0 rfl (lv_at hl 0 rfl) ?_
  refine lv_istore_n (lv' := [(3, .int a1), (1, .int a1), (2, .int a2)]) hx hb d_M_divisor_1 rfl hl (by decide) rfl (fun ls hl => ?_)
  refine lv_iload_n hx hb d_M_divisor_2 rfl (lv_at hl 2 rfl) ?_
  refine lv_istore (lv' := [(4, .int a2), (3, .int a1), (1, .int a1), (2, .int a2)]) hx hb d_M_divisor_3 hl (by decide) rfl (fun ls hl => ?_)
  exact c_M_divisor_l5 C a1 a2 w (lv_sub hl [1, 0] rfl) hf hR hS
theorem c_M_divisor (l : Launch) (D : va_G) (cA : Nat → ClassId) (oc : gO) (B N : Nat) (a0 : Nat) (a1 : Int32) (a2 : Int32) (w : gW) {wz : gW} {r : Int32} (hf : f_M_divisor N a0 a1 a2 w = some (r, wz)) : Met l y_M_divisor (Cond.code y_M_divisor b_M_divisor 6 (some .int) :: lw_good) ({ frames := 1, cells := 0, slots := 0, locals := 40 } : Room) (gPre D cA oc B [.ref (B + a0), .int a1, .int a2] w) (gQi D cA B r wz) 0 0 (gA B) := by
  refine Met.ofW (cc := b_M_divisor) (maxL := 6) (ret := (some .int)) (by decide +kernel) rfl ?_
  intro p e s m args below meth c s₁ Bd hml hv
  obtain ⟨hargs, C, hR⟩ := gC.enter (l := l) rfl Bd hml hv
  subst hargs
  have hl := lv_entry ([.ref (B + a0), .int a1, .int a2]) (n := 6) (Nat.le_of_ble_eq_true rfl)
  rw [lg_entry_eq]
  generalize (lg_sl ([.ref (B + a0), .int a1, .int a2]) ++ List.replicate (6 - (lg_sl ([.ref (B + a0), .int a1, .int a2])).length) Slot.unset).toArray = ls at hl ⊢
  have hl : lv_has ls 6 [(0, .ref (B + a0)), (1, .int a1), (2, .int a2)] := hl
  exact c_M_divisor_b0 C a1 a2 w (lv_sub hl [1, 2] rfl) hf hR va_S.rf
theorem d_M_lowest_0 : decode b_M_lowest 0 = .ok (.aload_n 0, 1) := by decide +kernel
theorem d_M_lowest_1 : decode b_M_lowest 1 = .ok (.iload_n 1, 1) := by decide +kernel
theorem d_M_lowest_2 : decode b_M_lowest 2 = .ok (.iload_n 2, 1) := by decide +kernel
theorem d_M_lowest_3 : decode b_M_lowest 3 = .ok (.invokevirtual 374, 3) := by decide +kernel
theorem d_M_lowest_6 : decode b_M_lowest 6 = .ok (.istore 4, 2) := by decide +kernel
theorem d_M_lowest_8 : decode b_M_lowest 8 = .ok (.iload_n 3, 1) := by decide +kernel
theorem d_M_lowest_9 : decode b_M_lowest 9 = .ok (.ifCond .ne 11, 3) := by decide +kernel
theorem d_M_lowest_12 : decode b_M_lowest 12 = .ok (.iload_n 1, 1) := by decide +kernel
theorem d_M_lowest_13 : decode b_M_lowest 13 = .ok (.iload 4, 2) := by decide +kernel
theorem d_M_lowest_15 : decode b_M_lowest 15 = .ok (.idiv, 1) := by decide +kernel
theorem d_M_lowest_16 : decode b_M_lowest 16 = .ok (.i2l, 1) := by decide +kernel
theorem d_M_lowest_17 : decode b_M_lowest 17 = .ok (.goto 8, 3) := by decide +kernel
theorem d_M_lowest_20 : decode b_M_lowest 20 = .ok (.iload_n 2, 1) := by decide +kernel
theorem d_M_lowest_21 : decode b_M_lowest 21 = .ok (.iload 4, 2) := by decide +kernel
theorem d_M_lowest_23 : decode b_M_lowest 23 = .ok (.idiv, 1) := by decide +kernel
theorem d_M_lowest_24 : decode b_M_lowest 24 = .ok (.i2l, 1) := by decide +kernel
theorem d_M_lowest_25 : decode b_M_lowest 25 = .ok (.lreturn, 1) := by decide +kernel
set_option maxRecDepth 20000 in
theorem c_M_lowest_b0 {r : Int64} {wz : gW} (C : gC p s m args meth c "RidCoppersModel" b_M_lowest 5 (some .long) D cA oc B) (a0 : Nat) (a1 : Int32) (a2 : Int32) (a3 : Int32) (w : gW) {ls : Array Slot} {H : Heap} {locs : List Loc} (hl : lv_has ls 5 [(0, .ref (B + a0)), (1, .int a1), (2, .int a2), (3, .int a3)]) (hf : f_M_lowest_b0 N a0 a1 a2 a3 w = some (r, wz)) (hR : gRep D cA B w H) (hS : va_S (gA B) s.heap H locs) : W p l e ({ frames := 2, cells := 0, slots := 0, locals := 65 } : Room) s m args below meth c H locs 0 0 (MQ below (gQl D cA B r wz) args s 0 0 (gA B)) (F0 m 0 ls []) := by
  obtain ⟨hx, hb, hml, hown, hts, hr, hlocks, hK, hBs⟩ := id C
  unfold f_M_lowest_b0 at hf
  refine lv_aload_n hx hb d_M_lowest_0 rfl (lv_at hl 0 rfl) ?_
  refine lv_iload_n hx hb d_M_lowest_1 rfl (lv_at hl 1 rfl) ?_
  refine lv_iload_n hx hb d_M_lowest_2 rfl (lv_at hl 2 rfl) ?_
  have ⟨h4, hf⟩ := gd_e hf
  have ⟨x1, w2, h3, hf⟩ := kl_e hf
  refine g_ki0 (g_rV (As := [.int a1, .int a2]) (rest := []) hx hb hml hown hts hK hR hS (c_M_divisor l D cA oc B N a0 a1 a2 w h3) I_M_divisor m_1471 mp_72 (gRecv hK hR (ci := 12) rfl h4) rfl rfl (Nat.le_of_ble_eq_true rfl) hl.1 ⟨Nat.le_of_ble_eq_true rfl, Nat.le_of_ble_eq_true rfl⟩ ⟨Nat.le_of_ble_eq_true rfl, Nat.le_of_ble_eq_true rfl⟩ d_M_lowest_3) hS (fun H locs hR hS => ?_)
  refine lv_istore (lv' := [(4, .int x1), (0, .ref (B + a0)), (1, .int a1), (2, .int a2), (3, .int a3)]) hx hb d_M_lowest_6 hl (by decide) rfl (fun ls hl => ?_)
  refine lv_iload_n hx hb d_M_lowest_8 rfl (lv_at hl 4 rfl) ?_
  refine lv_if_ne (tgt := 20) hx hb d_M_lowest_9 (by decide) (fun hc => ?_) (fun hc => ?_)
  · have hf := cd_f hc hf
    refine lv_iload_n hx hb d_M_lowest_20 rfl (lv_at hl 3 rfl) ?_
    refine lv_iload hx hb d_M_lowest_21 (lv_at hl 0 rfl) ?_
    have ⟨h5, hf⟩ := gd_e hf
    refine lv_idiv hx hb d_M_lowest_23 h5 ?_
    refine g_nI hf (fun x6 hf => ?_)
    refine lv_i2l hx hb d_M_lowest_24 rfl ?_
    refine g_nL hf (fun x7 hf => ?_)
    exact g_lret hx hb hr hlocks hR hS hf d_M_lowest_25
  have hf := cd_t hc hf
  refine lv_iload_n hx hb d_M_lowest_12 rfl (lv_at hl 2 rfl) ?_
  refine lv_iload hx hb d_M_lowest_13 (lv_at hl 0 rfl) ?_
  have ⟨h8, hf⟩ := gd_e hf
  refine lv_idiv hx hb d_M_lowest_15 h8 ?_
  refine g_nI hf (fun x9 hf => ?_)
  refine lv_i2l hx hb d_M_lowest_16 rfl ?_
  refine g_nL hf (fun x10 hf => ?_)
  refine lv_goto (tgt := 25) hx hb d_M_lowest_17 (by decide) ?_
  exact g_lret hx hb hr hlocks hR hS hf d_M_lowest_25
theorem c_M_lowest (l : Launch) (D : va_G) (cA : Nat → ClassId) (oc : gO) (B N : Nat) (a0 : Nat) (a1 : Int32) (a2 : Int32) (a3 : Int32) (w : gW) {wz : gW} {r : Int64} (hf : f_M_lowest N a0 a1 a2 a3 w = some (r, wz)) : Met l y_M_lowest (Cond.code y_M_lowest b_M_lowest 5 (some .long) :: lw_good) ({ frames := 2, cells := 0, slots := 0, locals := 65 } : Room) (gPre D cA oc B [.ref (B + a0), .int a1, .int a2, .int a3] w) (gQl D cA B r wz) 0 0 (gA B) := by
  refine Met.ofW (cc := b_M_lowest) (maxL := 5) (ret := (some .long)) (by decide +kernel) rfl ?_
  intro p e s m args below meth c s₁ Bd hml hv
  obtain ⟨hargs, C, hR⟩ := gC.enter (l := l) rfl Bd hml hv
  subst hargs
  have hl := lv_entry ([.ref (B + a0), .int a1, .int a2, .int a3]) (n := 5) (Nat.le_of_ble_eq_true rfl)
  rw [lg_entry_eq]
  generalize (lg_sl ([.ref (B + a0), .int a1, .int a2, .int a3]) ++ List.replicate (5 - (lg_sl ([.ref (B + a0), .int a1, .int a2, .int a3])).length) Slot.unset).toArray = ls at hl ⊢
  have hl : lv_has ls 5 [(0, .ref (B + a0)), (1, .int a1), (2, .int a2), (3, .int a3)] := hl
  exact c_M_lowest_b0 C a0 a1 a2 a3 w (lv_sub hl [0, 1, 2, 3] rfl) hf hR va_S.rf
theorem d_M_odds_0 : decode b_M_odds 0 = .ok (.aload_n 0, 1) := by decide +kernel
theorem d_M_odds_1 : decode b_M_odds 1 = .ok (.iload_n 1, 1) := by decide +kernel
theorem d_M_odds_2 : decode b_M_odds 2 = .ok (.invokevirtual 234, 3) := by decide +kernel
theorem d_M_odds_5 : decode b_M_odds 5 = .ok (.ifCond .eq 13, 3) := by decide +kernel
theorem d_M_odds_8 : decode b_M_odds 8 = .ok (.aload_n 0, 1) := by decide +kernel
theorem d_M_odds_9 : decode b_M_odds 9 = .ok (.iload_n 2, 1) := by decide +kernel
theorem d_M_odds_10 : decode b_M_odds 10 = .ok (.iconst 0, 1) := by decide +kernel
theorem d_M_odds_11 : decode b_M_odds 11 = .ok (.iconst 1, 1) := by decide +kernel
theorem d_M_odds_12 : decode b_M_odds 12 = .ok (.invokevirtual 230, 3) := by decide +kernel
theorem d_M_odds_15 : decode b_M_odds 15 = .ok (.ifCond .ne 7, 3) := by decide +kernel
theorem d_M_odds_18 : decode b_M_odds 18 = .ok (.ldc2_w 377, 3) := by decide +kernel
theorem d_M_odds_21 : decode b_M_odds 21 = .ok (.lreturn, 1) := by decide +kernel
theorem d_M_odds_22 : decode b_M_odds 22 = .ok (.iconst 0, 1) := by decide +kernel
theorem d_M_odds_23 : decode b_M_odds 23 = .ok (.istore_n 3, 1) := by decide +kernel
theorem d_M_odds_24 : decode b_M_odds 24 = .ok (.iconst 1, 1) := by decide +kernel
theorem d_M_odds_25 : decode b_M_odds 25 = .ok (.istore 4, 2) := by decide +kernel
theorem d_M_odds_27 : decode b_M_odds 27 = .ok (.iload 4, 2) := by decide +kernel
theorem d_M_odds_29 : decode b_M_odds 29 = .ok (.bipush 21, 2) := by decide +kernel
theorem d_M_odds_31 : decode b_M_odds 31 = .ok (.if_icmp .ge 27, 3) := by decide +kernel
theorem d_M_odds_34 : decode b_M_odds 34 = .ok (.iload_n 3, 1) := by decide +kernel
theorem d_M_odds_35 : decode b_M_odds 35 = .ok (.aload_n 0, 1) := by decide +kernel
theorem d_M_odds_36 : decode b_M_odds 36 = .ok (.iload_n 1, 1) := by decide +kernel
theorem d_M_odds_37 : decode b_M_odds 37 = .ok (.iload 4, 2) := by decide +kernel
theorem d_M_odds_39 : decode b_M_odds 39 = .ok (.invokevirtual 345, 3) := by decide +kernel
theorem d_M_odds_42 : decode b_M_odds 42 = .ok (.ifCond .eq 7, 3) := by decide +kernel
theorem d_M_odds_45 : decode b_M_odds 45 = .ok (.iconst 1, 1) := by decide +kernel
theorem d_M_odds_46 : decode b_M_odds 46 = .ok (.goto 4, 3) := by decide +kernel
theorem d_M_odds_49 : decode b_M_odds 49 = .ok (.iconst 0, 1) := by decide +kernel
theorem d_M_odds_50 : decode b_M_odds 50 = .ok (.iadd, 1) := by decide +kernel
theorem d_M_odds_51 : decode b_M_odds 51 = .ok (.istore_n 3, 1) := by decide +kernel
theorem d_M_odds_52 : decode b_M_odds 52 = .ok (.iinc 4 1, 3) := by decide +kernel
theorem d_M_odds_55 : decode b_M_odds 55 = .ok (.goto (-28), 3) := by decide +kernel
theorem d_M_odds_58 : decode b_M_odds 58 = .ok (.aload_n 0, 1) := by decide +kernel
theorem d_M_odds_59 : decode b_M_odds 59 = .ok (.iload_n 3, 1) := by decide +kernel
theorem d_M_odds_60 : decode b_M_odds 60 = .ok (.bipush 20, 2) := by decide +kernel
theorem d_M_odds_62 : decode b_M_odds 62 = .ok (.iload_n 2, 1) := by decide +kernel
theorem d_M_odds_63 : decode b_M_odds 63 = .ok (.invokevirtual 379, 3) := by decide +kernel
theorem d_M_odds_66 : decode b_M_odds 66 = .ok (.lreturn, 1) := by decide +kernel
set_option maxRecDepth 20000 in
theorem c_M_odds_b27 {r : Int64} {wz : gW} {rec27 : Nat × Int32 × Int32 × Int32 × Int32 × gW → Option (Int64 × gW)} (ih27 : ∀ (a0 : Nat) (a1 : Int32) (a2 : Int32) (a3 : Int32) (a4 : Int32) (w : gW) (ls : Array Slot) (H : Heap) (locs : List Loc), rec27 (a0, a1, a2, a3, a4, w) = some (r, wz) → lv_has ls 5 [(0, .ref (B + a0)), (1, .int a1), (2, .int a2), (3, .int a3), (4, .int a4)] → gRep D cA B w H → va_S (gA B) s.heap H locs → W p l e ({ frames := 7, cells := 0, slots := 0, locals := 190 } : Room) s m args below meth c H locs 0 0 (MQ below (gQl D cA B r wz) args s 0 0 (gA B)) (F0 m 27 ls [])) (C : gC p s m args meth c "RidCoppersModel" b_M_odds 5 (some .long) D cA oc B) (a0 : Nat) (a1 : Int32) (a2 : Int32) (a3 : Int32) (a4 : Int32) (w : gW) {ls : Array Slot} {H : Heap} {locs : List Loc} (hl : lv_has ls 5 [(0, .ref (B + a0)), (1, .int a1), (2, .int a2), (3, .int a3), (4, .int a4)]) (hf : f_M_odds_b27 N rec27 a0 a1 a2 a3 a4 w = some (r, wz)) (hR : gRep D cA B w H) (hS : va_S (gA B) s.heap H locs) : W p l e ({ frames := 7, cells := 0, slots := 0, locals := 190 } : Room) s m args below meth c H locs 0 0 (MQ below (gQl D cA B r wz) args s 0 0 (gA B)) (F0 m 27 ls []) := by
  obtain ⟨hx, hb, hml, hown, hts, hr, hlocks, hK, hBs⟩ := id C
  unfold f_M_odds_b27 at hf
  refine lv_iload hx hb d_M_odds_27 (lv_at hl 4 rfl) ?_
  refine lv_bipush (v := 21) hx hb d_M_odds_29 (by decide) ?_
  refine lv_icmp_ge (tgt := 58) hx hb d_M_odds_31 (by decide) (fun hc => ?_) (fun hc => ?_)
  · have hf := cd_t hc hf
    refine lv_aload_n hx hb d_M_odds_58 rfl (lv_at hl 0 rfl) ?_
    refine lv_iload_n hx hb d_M_odds_59 rfl (lv_at hl 3 rfl) ?_
    refine lv_bipush (v := 20) hx hb d_M_odds_60 (by decide) ?_
    refine lv_iload_n hx hb d_M_odds_62 rfl (lv_at hl 2 rfl) ?_
    have ⟨h12, hf⟩ := gd_e hf
    have ⟨x9, w10, h11, hf⟩ := kl_e hf
    refine g_kl0 (g_rV (As := [.int a3, .int 20, .int a2]) (rest := []) hx hb hml hown hts hK hR hS (c_M_lowest l D cA oc B N a0 a3 20 a2 w h11) I_M_lowest m_1467 mp_71 (gRecv hK hR (ci := 12) rfl h12) rfl rfl (Nat.le_of_ble_eq_true rfl) hl.1 ⟨Nat.le_of_ble_eq_true rfl, Nat.le_of_ble_eq_true rfl⟩ ⟨Nat.le_of_ble_eq_true rfl, Nat.le_of_ble_eq_true rfl⟩ d_M_odds_63) hS (fun H locs hR hS => ?_)
    exact g_lret hx hb hr hlocks hR hS hf d_M_odds_66
  have hf := cd_f hc hf
  refine lv_iload_n hx hb d_M_odds_34 rfl (lv_at hl 3 rfl) ?_
  refine lv_aload_n hx hb d_M_odds_35 rfl (lv_at hl 0 rfl) ?_
  refine lv_iload_n hx hb d_M_odds_36 rfl (lv_at hl 1 rfl) ?_
  refine lv_iload hx hb d_M_odds_37 (lv_at hl 4 rfl) ?_
  have ⟨h16, hf⟩ := gd_e hf
  have ⟨x13, w14, h15, hf⟩ := kl_e hf
  refine g_ki0 (g_rV (As := [.int a1, .int a4]) (rest := [.int a3]) hx hb hml hown hts hK hR hS (c_M_chooses l D cA oc B N a0 a1 a4 w h15) I_M_chooses m_1352 mp_56 (gRecv hK hR (ci := 12) rfl h16) rfl rfl (Nat.le_of_ble_eq_true rfl) hl.1 ⟨Nat.le_of_ble_eq_true rfl, Nat.le_of_ble_eq_true rfl⟩ ⟨Nat.le_of_ble_eq_true rfl, Nat.le_of_ble_eq_true rfl⟩ d_M_odds_39) hS (fun H locs hR hS => ?_)
  refine lv_if_eq (tgt := 49) hx hb d_M_odds_42 (by decide) (fun hc => ?_) (fun hc => ?_)
  · have hf := cd_t hc hf
    refine lv_iconst (v := 0) hx hb d_M_odds_49 (by decide) ?_
    refine lv_iadd hx hb d_M_odds_50 ?_
    refine g_nI hf (fun x17 hf => ?_)
    refine lv_istore_n (lv' := [(3, .int x17), (0, .ref (B + a0)), (1, .int a1), (2, .int a2), (4, .int a4)]) hx hb d_M_odds_51 rfl hl (by decide) rfl (fun ls hl => ?_)
    refine g_iinc (lv' := fun x18 => [(4, .int x18), (3, .int x17), (0, .ref (B + a0)), (1, .int a1), (2, .int a2)]) hf hx hb d_M_odds_52 hl (k := 4) rfl (by decide) (by decide) (fun _ => rfl) (fun x18 ls hf hl => ?_)
    refine lv_goto (tgt := 27) hx hb d_M_odds_55 (by decide) ?_
    exact ih27 a0 a1 a2 x17 x18 w14 _ _ _ hf (lv_sub hl [2, 3, 4, 1, 0] rfl) hR hS
  have hf := cd_f hc hf
  refine lv_iconst (v := 1) hx hb d_M_odds_45 (by decide) ?_
  refine lv_goto (tgt := 50) hx hb d_M_odds_46 (by decide) ?_
  refine lv_iadd hx hb d_M_odds_50 ?_
  refine g_nI hf (fun x19 hf => ?_)
  refine lv_istore_n (lv' := [(3, .int x19), (0, .ref (B + a0)), (1, .int a1), (2, .int a2), (4, .int a4)]) hx hb d_M_odds_51 rfl hl (by decide) rfl (fun ls hl => ?_)
  refine g_iinc (lv' := fun x20 => [(4, .int x20), (3, .int x19), (0, .ref (B + a0)), (1, .int a1), (2, .int a2)]) hf hx hb d_M_odds_52 hl (k := 4) rfl (by decide) (by decide) (fun _ => rfl) (fun x20 ls hf hl => ?_)
  refine lv_goto (tgt := 27) hx hb d_M_odds_55 (by decide) ?_
  exact ih27 a0 a1 a2 x19 x20 w14 _ _ _ hf (lv_sub hl [2, 3, 4, 1, 0] rfl) hR hS
theorem c_M_odds_l27 {r : Int64} {wz : gW} (C : gC p s m args meth c "RidCoppersModel" b_M_odds 5 (some .long) D cA oc B) (a0 : Nat) (a1 : Int32) (a2 : Int32) (a3 : Int32) (a4 : Int32) (w : gW) {ls : Array Slot} {H : Heap} {locs : List Loc} (hl : lv_has ls 5 [(0, .ref (B + a0)), (1, .int a1), (2, .int a2), (3, .int a3), (4, .int a4)]) (hf : f_M_odds_l27 N a0 a1 a2 a3 a4 w = some (r, wz)) (hR : gRep D cA B w H) (hS : va_S (gA B) s.heap H locs) : W p l e ({ frames := 7, cells := 0, slots := 0, locals := 190 } : Room) s m args below meth c H locs 0 0 (MQ below (gQl D cA B r wz) args s 0 0 (gA B)) (F0 m 27 ls []) := by
  unfold f_M_odds_l27 at hf
  suffices hh : ∀ n : Nat, ∀ (a0 : Nat) (a1 : Int32) (a2 : Int32) (a3 : Int32) (a4 : Int32) (w : gW) (ls : Array Slot) (H : Heap) (locs : List Loc), itr (fun rec (q : Nat × Int32 × Int32 × Int32 × Int32 × gW) => f_M_odds_b27 N rec q.1 q.2.1 q.2.2.1 q.2.2.2.1 q.2.2.2.2.1 q.2.2.2.2.2) n (a0, a1, a2, a3, a4, w) = some (r, wz) → lv_has ls 5 [(0, .ref (B + a0)), (1, .int a1), (2, .int a2), (3, .int a3), (4, .int a4)] → gRep D cA B w H → va_S (gA B) s.heap H locs → W p l e ({ frames := 7, cells := 0, slots := 0, locals := 190 } : Room) s m args below meth c H locs 0 0 (MQ below (gQl D cA B r wz) args s 0 0 (gA B)) (F0 m 27 ls []) from hh N a0 a1 a2 a3 a4 w ls H locs hf hl hR hS
  intro n
  induction n with
  | zero => intro a0 a1 a2 a3 a4 w ls H locs hf; cases hf
  | succ n ihn =>
    intro a0 a1 a2 a3 a4 w ls H locs hf hl hR hS
    exact c_M_odds_b27 (N := N) ihn C a0 a1 a2 a3 a4 w hl ((itr_s _ _ _).symm.trans hf) hR hS
set_option maxRecDepth 20000 in
theorem c_M_odds_b0 {r : Int64} {wz : gW} (C : gC p s m args meth c "RidCoppersModel" b_M_odds 5 (some .long) D cA oc B) (a0 : Nat) (a1 : Int32) (a2 : Int32) (w : gW) {ls : Array Slot} {H : Heap} {locs : List Loc} (hl : lv_has ls 5 [(0, .ref (B + a0)), (1, .int a1), (2, .int a2)]) (hf : f_M_odds_b0 N a0 a1 a2 w = some (r, wz)) (hR : gRep D cA B w H) (hS : va_S (gA B) s.heap H locs) : W p l e ({ frames := 7, cells := 0, slots := 0, locals := 190 } : Room) s m args below meth c H locs 0 0 (MQ below (gQl D cA B r wz) args s 0 0 (gA B)) (F0 m 0 ls []) := by
  obtain ⟨hx, hb, hml, hown, hts, hr, hlocks, hK, hBs⟩ := id C
  unfold f_M_odds_b0 at hf
  refine lv_aload_n hx hb d_M_odds_0 rfl (lv_at hl 0 rfl) ?_
  refine lv_iload_n hx hb d_M_odds_1 rfl (lv_at hl 1 rfl) ?_
  have ⟨h4, hf⟩ := gd_e hf
  have ⟨x1, w2, h3, hf⟩ := kl_e hf
  refine g_ki0 (g_rV (As := [.int a1]) (rest := []) hx hb hml hown hts hK hR hS (c_M_isPayer l D cA oc B N a0 a1 w h3) I_M_isPayer m_1212 mp_28 (gRecv hK hR (ci := 12) rfl h4) rfl rfl (Nat.le_of_ble_eq_true rfl) hl.1 ⟨Nat.le_of_ble_eq_true rfl, Nat.le_of_ble_eq_true rfl⟩ ⟨Nat.le_of_ble_eq_true rfl, Nat.le_of_ble_eq_true rfl⟩ d_M_odds_2) hS (fun H locs hR hS => ?_)
  refine lv_if_eq (tgt := 18) hx hb d_M_odds_5 (by decide) (fun hc => ?_) (fun hc => ?_)
  · have hf := cd_t hc hf
    refine lv_ldc2 hx hb hown (hts _ m_1466) d_M_odds_18 ?_
    exact g_lret hx hb hr hlocks hR hS hf d_M_odds_21
  have hf := cd_f hc hf
  refine lv_aload_n hx hb d_M_odds_8 rfl (lv_at hl 0 rfl) ?_
  refine lv_iload_n hx hb d_M_odds_9 rfl (lv_at hl 2 rfl) ?_
  refine lv_iconst (v := 0) hx hb d_M_odds_10 (by decide) ?_
  refine lv_iconst (v := 1) hx hb d_M_odds_11 (by decide) ?_
  have ⟨h8, hf⟩ := gd_e hf
  have ⟨x5, w6, h7, hf⟩ := kl_e hf
  refine g_ki0 (g_rV (As := [.int a2, .int 0, .int 1]) (rest := []) hx hb hml hown hts hK hR hS (c_M_in l D cA oc B N a0 a2 0 1 w2 h7) I_M_in m_1204 mp_27 (gRecv hK hR (ci := 12) rfl h8) rfl rfl (Nat.le_of_ble_eq_true rfl) hl.1 ⟨Nat.le_of_ble_eq_true rfl, Nat.le_of_ble_eq_true rfl⟩ ⟨Nat.le_of_ble_eq_true rfl, Nat.le_of_ble_eq_true rfl⟩ d_M_odds_12) hS (fun H locs hR hS => ?_)
  refine lv_if_ne (tgt := 22) hx hb d_M_odds_15 (by decide) (fun hc => ?_) (fun hc => ?_)
  · have hf := cd_f hc hf
    refine lv_iconst (v := 0) hx hb d_M_odds_22 (by decide) ?_
    refine lv_istore_n (lv' := [(3, .int 0), (0, .ref (B + a0)), (1, .int a1), (2, .int a2)]) hx hb d_M_odds_23 rfl hl (by decide) rfl (fun ls hl => ?_)
    refine lv_iconst (v := 1) hx hb d_M_odds_24 (by decide) ?_
    refine lv_istore (lv' := [(4, .int 1), (3, .int 0), (0, .ref (B + a0)), (1, .int a1), (2, .int a2)]) hx hb d_M_odds_25 hl (by decide) rfl (fun ls hl => ?_)
    exact c_M_odds_l27 C a0 a1 a2 0 1 w6 (lv_sub hl [2, 3, 4, 1, 0] rfl) hf hR hS
  have hf := cd_t hc hf
  refine lv_ldc2 hx hb hown (hts _ m_1466) d_M_odds_18 ?_
  exact g_lret hx hb hr hlocks hR hS hf d_M_odds_21
theorem c_M_odds (l : Launch) (D : va_G) (cA : Nat → ClassId) (oc : gO) (B N : Nat) (a0 : Nat) (a1 : Int32) (a2 : Int32) (w : gW) {wz : gW} {r : Int64} (hf : f_M_odds N a0 a1 a2 w = some (r, wz)) : Met l y_M_odds (Cond.code y_M_odds b_M_odds 5 (some .long) :: lw_good) ({ frames := 7, cells := 0, slots := 0, locals := 190 } : Room) (gPre D cA oc B [.ref (B + a0), .int a1, .int a2] w) (gQl D cA B r wz) 0 0 (gA B) := by
  refine Met.ofW (cc := b_M_odds) (maxL := 5) (ret := (some .long)) (by decide +kernel) rfl ?_
  intro p e s m args below meth c s₁ Bd hml hv
  obtain ⟨hargs, C, hR⟩ := gC.enter (l := l) rfl Bd hml hv
  subst hargs
  have hl := lv_entry ([.ref (B + a0), .int a1, .int a2]) (n := 5) (Nat.le_of_ble_eq_true rfl)
  rw [lg_entry_eq]
  generalize (lg_sl ([.ref (B + a0), .int a1, .int a2]) ++ List.replicate (5 - (lg_sl ([.ref (B + a0), .int a1, .int a2])).length) Slot.unset).toArray = ls at hl ⊢
  have hl : lv_has ls 5 [(0, .ref (B + a0)), (1, .int a1), (2, .int a2)] := hl
  exact c_M_odds_b0 C a0 a1 a2 w (lv_sub hl [0, 1, 2] rfl) hf hR va_S.rf
theorem d_M_mean_0 : decode b_M_mean 0 = .ok (.aload_n 0, 1) := by decide +kernel
theorem d_M_mean_1 : decode b_M_mean 1 = .ok (.iload_n 1, 1) := by decide +kernel
theorem d_M_mean_2 : decode b_M_mean 2 = .ok (.invokevirtual 348, 3) := by decide +kernel
theorem d_M_mean_5 : decode b_M_mean 5 = .ok (.ifCond .eq 13, 3) := by decide +kernel
theorem d_M_mean_8 : decode b_M_mean 8 = .ok (.aload_n 0, 1) := by decide +kernel
theorem d_M_mean_9 : decode b_M_mean 9 = .ok (.iload_n 2, 1) := by decide +kernel
theorem d_M_mean_10 : decode b_M_mean 10 = .ok (.iconst 0, 1) := by decide +kernel
theorem d_M_mean_11 : decode b_M_mean 11 = .ok (.iconst 1, 1) := by decide +kernel
theorem d_M_mean_12 : decode b_M_mean 12 = .ok (.invokevirtual 230, 3) := by decide +kernel
theorem d_M_mean_15 : decode b_M_mean 15 = .ok (.ifCond .ne 7, 3) := by decide +kernel
theorem d_M_mean_18 : decode b_M_mean 18 = .ok (.ldc2_w 377, 3) := by decide +kernel
theorem d_M_mean_21 : decode b_M_mean 21 = .ok (.lreturn, 1) := by decide +kernel
theorem d_M_mean_22 : decode b_M_mean 22 = .ok (.iconst 0, 1) := by decide +kernel
theorem d_M_mean_23 : decode b_M_mean 23 = .ok (.istore_n 3, 1) := by decide +kernel
theorem d_M_mean_24 : decode b_M_mean 24 = .ok (.iconst 0, 1) := by decide +kernel
theorem d_M_mean_25 : decode b_M_mean 25 = .ok (.istore 4, 2) := by decide +kernel
theorem d_M_mean_27 : decode b_M_mean 27 = .ok (.iconst 0, 1) := by decide +kernel
theorem d_M_mean_28 : decode b_M_mean 28 = .ok (.istore 5, 2) := by decide +kernel
theorem d_M_mean_30 : decode b_M_mean 30 = .ok (.iload 5, 2) := by decide +kernel
theorem d_M_mean_32 : decode b_M_mean 32 = .ok (.aload_n 0, 1) := by decide +kernel
theorem d_M_mean_33 : decode b_M_mean 33 = .ok (.getfield 7, 3) := by decide +kernel
theorem d_M_mean_36 : decode b_M_mean 36 = .ok (.if_icmp .ge 32, 3) := by decide +kernel
theorem d_M_mean_39 : decode b_M_mean 39 = .ok (.aload_n 0, 1) := by decide +kernel
theorem d_M_mean_40 : decode b_M_mean 40 = .ok (.iload 5, 2) := by decide +kernel
theorem d_M_mean_42 : decode b_M_mean 42 = .ok (.iload_n 1, 1) := by decide +kernel
theorem d_M_mean_43 : decode b_M_mean 43 = .ok (.invokevirtual 345, 3) := by decide +kernel
theorem d_M_mean_46 : decode b_M_mean 46 = .ok (.ifCond .ne 6, 3) := by decide +kernel
theorem d_M_mean_49 : decode b_M_mean 49 = .ok (.goto 13, 3) := by decide +kernel
theorem d_M_mean_52 : decode b_M_mean 52 = .ok (.iload_n 3, 1) := by decide +kernel
theorem d_M_mean_53 : decode b_M_mean 53 = .ok (.aload_n 0, 1) := by decide +kernel
theorem d_M_mean_54 : decode b_M_mean 54 = .ok (.invokevirtual 354, 3) := by decide +kernel
theorem d_M_mean_57 : decode b_M_mean 57 = .ok (.iadd, 1) := by decide +kernel
theorem d_M_mean_58 : decode b_M_mean 58 = .ok (.istore_n 3, 1) := by decide +kernel
theorem d_M_mean_59 : decode b_M_mean 59 = .ok (.iinc 4 1, 3) := by decide +kernel
theorem d_M_mean_62 : decode b_M_mean 62 = .ok (.iinc 5 1, 3) := by decide +kernel
theorem d_M_mean_65 : decode b_M_mean 65 = .ok (.goto (-35), 3) := by decide +kernel
theorem d_M_mean_68 : decode b_M_mean 68 = .ok (.iload 4, 2) := by decide +kernel
theorem d_M_mean_70 : decode b_M_mean 70 = .ok (.ifCond .ne 9, 3) := by decide +kernel
theorem d_M_mean_73 : decode b_M_mean 73 = .ok (.ldc2_w 377, 3) := by decide +kernel
theorem d_M_mean_76 : decode b_M_mean 76 = .ok (.goto 11, 3) := by decide +kernel
theorem d_M_mean_79 : decode b_M_mean 79 = .ok (.aload_n 0, 1) := by decide +kernel
theorem d_M_mean_80 : decode b_M_mean 80 = .ok (.iload_n 3, 1) := by decide +kernel
theorem d_M_mean_81 : decode b_M_mean 81 = .ok (.iload 4, 2) := by decide +kernel
theorem d_M_mean_83 : decode b_M_mean 83 = .ok (.iload_n 2, 1) := by decide +kernel
theorem d_M_mean_84 : decode b_M_mean 84 = .ok (.invokevirtual 379, 3) := by decide +kernel
theorem d_M_mean_87 : decode b_M_mean 87 = .ok (.lreturn, 1) := by decide +kernel
set_option maxRecDepth 20000 in
theorem c_M_mean_b30 {r : Int64} {wz : gW} {rec30 : Nat × Int32 × Int32 × Int32 × Int32 × Int32 × gW → Option (Int64 × gW)} (ih30 : ∀ (a0 : Nat) (a1 : Int32) (a2 : Int32) (a3 : Int32) (a4 : Int32) (a5 : Int32) (w : gW) (ls : Array Slot) (H : Heap) (locs : List Loc), rec30 (a0, a1, a2, a3, a4, a5, w) = some (r, wz) → lv_has ls 6 [(0, .ref (B + a0)), (1, .int a1), (2, .int a2), (3, .int a3), (4, .int a4), (5, .int a5)] → gRep D cA B w H → va_S (gA B) s.heap H locs → W p l e ({ frames := 7, cells := 0, slots := 0, locals := 190 } : Room) s m args below meth c H locs 0 0 (MQ below (gQl D cA B r wz) args s 0 0 (gA B)) (F0 m 30 ls [])) (C : gC p s m args meth c "RidCoppersModel" b_M_mean 6 (some .long) D cA oc B) (a0 : Nat) (a1 : Int32) (a2 : Int32) (a3 : Int32) (a4 : Int32) (a5 : Int32) (w : gW) {ls : Array Slot} {H : Heap} {locs : List Loc} (hl : lv_has ls 6 [(0, .ref (B + a0)), (1, .int a1), (2, .int a2), (3, .int a3), (4, .int a4), (5, .int a5)]) (hf : f_M_mean_b30 N rec30 a0 a1 a2 a3 a4 a5 w = some (r, wz)) (hR : gRep D cA B w H) (hS : va_S (gA B) s.heap H locs) : W p l e ({ frames := 7, cells := 0, slots := 0, locals := 190 } : Room) s m args below meth c H locs 0 0 (MQ below (gQl D cA B r wz) args s 0 0 (gA B)) (F0 m 30 ls []) := by
  obtain ⟨hx, hb, hml, hown, hts, hr, hlocks, hK, hBs⟩ := id C
  unfold f_M_mean_b30 at hf
  refine lv_iload hx hb d_M_mean_30 (lv_at hl 5 rfl) ?_
  refine lv_aload_n hx hb d_M_mean_32 rfl (lv_at hl 0 rfl) ?_
  have ⟨h9, hf⟩ := gd_e hf
  refine g_getI hx hb hts hown hK hR fl_M_7 (fun _ => rfl) h9 d_M_mean_33 ?_
  refine g_nI hf (fun x10 hf => ?_)
  refine lv_icmp_ge (tgt := 68) hx hb d_M_mean_36 (by decide) (fun hc => ?_) (fun hc => ?_)
  · have hf := cd_t hc hf
    refine lv_iload hx hb d_M_mean_68 (lv_at hl 4 rfl) ?_
    refine lv_if_ne (tgt := 79) hx hb d_M_mean_70 (by decide) (fun hc => ?_) (fun hc => ?_)
    · have hf := cd_f hc hf
      refine lv_aload_n hx hb d_M_mean_79 rfl (lv_at hl 0 rfl) ?_
      refine lv_iload_n hx hb d_M_mean_80 rfl (lv_at hl 3 rfl) ?_
      refine lv_iload hx hb d_M_mean_81 (lv_at hl 4 rfl) ?_
      refine lv_iload_n hx hb d_M_mean_83 rfl (lv_at hl 2 rfl) ?_
      have ⟨x11, w12, h13, hf⟩ := kl_e hf
      refine g_kl0 (g_rV (As := [.int a3, .int a4, .int a2]) (rest := []) hx hb hml hown hts hK hR hS (c_M_lowest l D cA oc B N a0 a3 a4 a2 w h13) I_M_lowest m_1467 mp_71 (gRecv hK hR (ci := 12) rfl h9) rfl rfl (Nat.le_of_ble_eq_true rfl) hl.1 ⟨Nat.le_of_ble_eq_true rfl, Nat.le_of_ble_eq_true rfl⟩ ⟨Nat.le_of_ble_eq_true rfl, Nat.le_of_ble_eq_true rfl⟩ d_M_mean_84) hS (fun H locs hR hS => ?_)
      exact g_lret hx hb hr hlocks hR hS hf d_M_mean_87
    have hf := cd_t hc hf
    refine lv_ldc2 hx hb hown (hts _ m_1466) d_M_mean_73 ?_
    refine lv_goto (tgt := 87) hx hb d_M_mean_76 (by decide) ?_
    exact g_lret hx hb hr hlocks hR hS hf d_M_mean_87
  have hf := cd_f hc hf
  refine lv_aload_n hx hb d_M_mean_39 rfl (lv_at hl 0 rfl) ?_
  refine lv_iload hx hb d_M_mean_40 (lv_at hl 5 rfl) ?_
  refine lv_iload_n hx hb d_M_mean_42 rfl (lv_at hl 1 rfl) ?_
  have ⟨x14, w15, h16, hf⟩ := kl_e hf
  refine g_ki0 (g_rV (As := [.int a5, .int a1]) (rest := []) hx hb hml hown hts hK hR hS (c_M_chooses l D cA oc B N a0 a5 a1 w h16) I_M_chooses m_1352 mp_56 (gRecv hK hR (ci := 12) rfl h9) rfl rfl (Nat.le_of_ble_eq_true rfl) hl.1 ⟨Nat.le_of_ble_eq_true rfl, Nat.le_of_ble_eq_true rfl⟩ ⟨Nat.le_of_ble_eq_true rfl, Nat.le_of_ble_eq_true rfl⟩ d_M_mean_43) hS (fun H locs hR hS => ?_)
  refine lv_if_ne (tgt := 52) hx hb d_M_mean_46 (by decide) (fun hc => ?_) (fun hc => ?_)
  · have hf := cd_f hc hf
    refine lv_iload_n hx hb d_M_mean_52 rfl (lv_at hl 3 rfl) ?_
    refine lv_aload_n hx hb d_M_mean_53 rfl (lv_at hl 0 rfl) ?_
    have ⟨h20, hf⟩ := gd_e hf
    have ⟨x17, w18, h19, hf⟩ := kl_e hf
    refine g_ki0 (g_rV (As := []) (rest := [.int a3]) hx hb hml hown hts hK hR hS (c_M_coinsOf l D cA oc B N a0 w15 h19) I_M_coinsOf m_1388 mp_65 (gRecv hK hR (ci := 12) rfl h20) rfl rfl (Nat.le_of_ble_eq_true rfl) hl.1 ⟨Nat.le_of_ble_eq_true rfl, Nat.le_of_ble_eq_true rfl⟩ ⟨Nat.le_of_ble_eq_true rfl, Nat.le_of_ble_eq_true rfl⟩ d_M_mean_54) hS (fun H locs hR hS => ?_)
    refine lv_iadd hx hb d_M_mean_57 ?_
    refine g_nI hf (fun x21 hf => ?_)
    refine lv_istore_n (lv' := [(3, .int x21), (0, .ref (B + a0)), (1, .int a1), (2, .int a2), (4, .int a4), (5, .int a5)]) hx hb d_M_mean_58 rfl hl (by decide) rfl (fun ls hl => ?_)
    refine g_iinc (lv' := fun x22 => [(4, .int x22), (3, .int x21), (0, .ref (B + a0)), (1, .int a1), (2, .int a2), (5, .int a5)]) hf hx hb d_M_mean_59 hl (k := 4) rfl (by decide) (by decide) (fun _ => rfl) (fun x22 ls hf hl => ?_)
    refine g_iinc (lv' := fun x23 => [(5, .int x23), (4, .int x22), (3, .int x21), (0, .ref (B + a0)), (1, .int a1), (2, .int a2)]) hf hx hb d_M_mean_62 hl (k := 5) rfl (by decide) (by decide) (fun _ => rfl) (fun x23 ls hf hl => ?_)
    refine lv_goto (tgt := 30) hx hb d_M_mean_65 (by decide) ?_
    exact ih30 a0 a1 a2 x21 x22 x23 w18 _ _ _ hf (lv_sub hl [3, 4, 5, 2, 1, 0] rfl) hR hS
  have hf := cd_t hc hf
  refine lv_goto (tgt := 62) hx hb d_M_mean_49 (by decide) ?_
  refine g_iinc (lv' := fun x24 => [(5, .int x24), (0, .ref (B + a0)), (1, .int a1), (2, .int a2), (3, .int a3), (4, .int a4)]) hf hx hb d_M_mean_62 hl (k := 5) rfl (by decide) (by decide) (fun _ => rfl) (fun x24 ls hf hl => ?_)
  refine lv_goto (tgt := 30) hx hb d_M_mean_65 (by decide) ?_
  exact ih30 a0 a1 a2 a3 a4 x24 w15 _ _ _ hf (lv_sub hl [1, 2, 3, 4, 5, 0] rfl) hR hS
theorem c_M_mean_l30 {r : Int64} {wz : gW} (C : gC p s m args meth c "RidCoppersModel" b_M_mean 6 (some .long) D cA oc B) (a0 : Nat) (a1 : Int32) (a2 : Int32) (a3 : Int32) (a4 : Int32) (a5 : Int32) (w : gW) {ls : Array Slot} {H : Heap} {locs : List Loc} (hl : lv_has ls 6 [(0, .ref (B + a0)), (1, .int a1), (2, .int a2), (3, .int a3), (4, .int a4), (5, .int a5)]) (hf : f_M_mean_l30 N a0 a1 a2 a3 a4 a5 w = some (r, wz)) (hR : gRep D cA B w H) (hS : va_S (gA B) s.heap H locs) : W p l e ({ frames := 7, cells := 0, slots := 0, locals := 190 } : Room) s m args below meth c H locs 0 0 (MQ below (gQl D cA B r wz) args s 0 0 (gA B)) (F0 m 30 ls []) := by
  unfold f_M_mean_l30 at hf
  suffices hh : ∀ n : Nat, ∀ (a0 : Nat) (a1 : Int32) (a2 : Int32) (a3 : Int32) (a4 : Int32) (a5 : Int32) (w : gW) (ls : Array Slot) (H : Heap) (locs : List Loc), itr (fun rec (q : Nat × Int32 × Int32 × Int32 × Int32 × Int32 × gW) => f_M_mean_b30 N rec q.1 q.2.1 q.2.2.1 q.2.2.2.1 q.2.2.2.2.1 q.2.2.2.2.2.1 q.2.2.2.2.2.2) n (a0, a1, a2, a3, a4, a5, w) = some (r, wz) → lv_has ls 6 [(0, .ref (B + a0)), (1, .int a1), (2, .int a2), (3, .int a3), (4, .int a4), (5, .int a5)] → gRep D cA B w H → va_S (gA B) s.heap H locs → W p l e ({ frames := 7, cells := 0, slots := 0, locals := 190 } : Room) s m args below meth c H locs 0 0 (MQ below (gQl D cA B r wz) args s 0 0 (gA B)) (F0 m 30 ls []) from hh N a0 a1 a2 a3 a4 a5 w ls H locs hf hl hR hS
  intro n
  induction n with
  | zero => intro a0 a1 a2 a3 a4 a5 w ls H locs hf; cases hf
  | succ n ihn =>
    intro a0 a1 a2 a3 a4 a5 w ls H locs hf hl hR hS
    exact c_M_mean_b30 (N := N) ihn C a0 a1 a2 a3 a4 a5 w hl ((itr_s _ _ _).symm.trans hf) hR hS
set_option maxRecDepth 20000 in
theorem c_M_mean_b0 {r : Int64} {wz : gW} (C : gC p s m args meth c "RidCoppersModel" b_M_mean 6 (some .long) D cA oc B) (a0 : Nat) (a1 : Int32) (a2 : Int32) (w : gW) {ls : Array Slot} {H : Heap} {locs : List Loc} (hl : lv_has ls 6 [(0, .ref (B + a0)), (1, .int a1), (2, .int a2)]) (hf : f_M_mean_b0 N a0 a1 a2 w = some (r, wz)) (hR : gRep D cA B w H) (hS : va_S (gA B) s.heap H locs) : W p l e ({ frames := 7, cells := 0, slots := 0, locals := 190 } : Room) s m args below meth c H locs 0 0 (MQ below (gQl D cA B r wz) args s 0 0 (gA B)) (F0 m 0 ls []) := by
  obtain ⟨hx, hb, hml, hown, hts, hr, hlocks, hK, hBs⟩ := id C
  unfold f_M_mean_b0 at hf
  refine lv_aload_n hx hb d_M_mean_0 rfl (lv_at hl 0 rfl) ?_
  refine lv_iload_n hx hb d_M_mean_1 rfl (lv_at hl 1 rfl) ?_
  have ⟨h4, hf⟩ := gd_e hf
  have ⟨x1, w2, h3, hf⟩ := kl_e hf
  refine g_ki0 (g_rV (As := [.int a1]) (rest := []) hx hb hml hown hts hK hR hS (c_M_isPrice l D cA oc B N a0 a1 w h3) I_M_isPrice m_1344 mp_54 (gRecv hK hR (ci := 12) rfl h4) rfl rfl (Nat.le_of_ble_eq_true rfl) hl.1 ⟨Nat.le_of_ble_eq_true rfl, Nat.le_of_ble_eq_true rfl⟩ ⟨Nat.le_of_ble_eq_true rfl, Nat.le_of_ble_eq_true rfl⟩ d_M_mean_2) hS (fun H locs hR hS => ?_)
  refine lv_if_eq (tgt := 18) hx hb d_M_mean_5 (by decide) (fun hc => ?_) (fun hc => ?_)
  · have hf := cd_t hc hf
    refine lv_ldc2 hx hb hown (hts _ m_1466) d_M_mean_18 ?_
    exact g_lret hx hb hr hlocks hR hS hf d_M_mean_21
  have hf := cd_f hc hf
  refine lv_aload_n hx hb d_M_mean_8 rfl (lv_at hl 0 rfl) ?_
  refine lv_iload_n hx hb d_M_mean_9 rfl (lv_at hl 2 rfl) ?_
  refine lv_iconst (v := 0) hx hb d_M_mean_10 (by decide) ?_
  refine lv_iconst (v := 1) hx hb d_M_mean_11 (by decide) ?_
  have ⟨h8, hf⟩ := gd_e hf
  have ⟨x5, w6, h7, hf⟩ := kl_e hf
  refine g_ki0 (g_rV (As := [.int a2, .int 0, .int 1]) (rest := []) hx hb hml hown hts hK hR hS (c_M_in l D cA oc B N a0 a2 0 1 w2 h7) I_M_in m_1204 mp_27 (gRecv hK hR (ci := 12) rfl h8) rfl rfl (Nat.le_of_ble_eq_true rfl) hl.1 ⟨Nat.le_of_ble_eq_true rfl, Nat.le_of_ble_eq_true rfl⟩ ⟨Nat.le_of_ble_eq_true rfl, Nat.le_of_ble_eq_true rfl⟩ d_M_mean_12) hS (fun H locs hR hS => ?_)
  refine lv_if_ne (tgt := 22) hx hb d_M_mean_15 (by decide) (fun hc => ?_) (fun hc => ?_)
  · have hf := cd_f hc hf
    refine lv_iconst (v := 0) hx hb d_M_mean_22 (by decide) ?_
    refine lv_istore_n (lv' := [(3, .int 0), (0, .ref (B + a0)), (1, .int a1), (2, .int a2)]) hx hb d_M_mean_23 rfl hl (by decide) rfl (fun ls hl => ?_)
    refine lv_iconst (v := 0) hx hb d_M_mean_24 (by decide) ?_
    refine lv_istore (lv' := [(4, .int 0), (3, .int 0), (0, .ref (B + a0)), (1, .int a1), (2, .int a2)]) hx hb d_M_mean_25 hl (by decide) rfl (fun ls hl => ?_)
    refine lv_iconst (v := 0) hx hb d_M_mean_27 (by decide) ?_
    refine lv_istore (lv' := [(5, .int 0), (4, .int 0), (3, .int 0), (0, .ref (B + a0)), (1, .int a1), (2, .int a2)]) hx hb d_M_mean_28 hl (by decide) rfl (fun ls hl => ?_)
    exact c_M_mean_l30 C a0 a1 a2 0 0 0 w6 (lv_sub hl [3, 4, 5, 2, 1, 0] rfl) hf hR hS
  have hf := cd_t hc hf
  refine lv_ldc2 hx hb hown (hts _ m_1466) d_M_mean_18 ?_
  exact g_lret hx hb hr hlocks hR hS hf d_M_mean_21
theorem c_M_mean (l : Launch) (D : va_G) (cA : Nat → ClassId) (oc : gO) (B N : Nat) (a0 : Nat) (a1 : Int32) (a2 : Int32) (w : gW) {wz : gW} {r : Int64} (hf : f_M_mean N a0 a1 a2 w = some (r, wz)) : Met l y_M_mean (Cond.code y_M_mean b_M_mean 6 (some .long) :: lw_good) ({ frames := 7, cells := 0, slots := 0, locals := 190 } : Room) (gPre D cA oc B [.ref (B + a0), .int a1, .int a2] w) (gQl D cA B r wz) 0 0 (gA B) := by
  refine Met.ofW (cc := b_M_mean) (maxL := 6) (ret := (some .long)) (by decide +kernel) rfl ?_
  intro p e s m args below meth c s₁ Bd hml hv
  obtain ⟨hargs, C, hR⟩ := gC.enter (l := l) rfl Bd hml hv
  subst hargs
  have hl := lv_entry ([.ref (B + a0), .int a1, .int a2]) (n := 6) (Nat.le_of_ble_eq_true rfl)
  rw [lg_entry_eq]
  generalize (lg_sl ([.ref (B + a0), .int a1, .int a2]) ++ List.replicate (6 - (lg_sl ([.ref (B + a0), .int a1, .int a2])).length) Slot.unset).toArray = ls at hl ⊢
  have hl : lv_has ls 6 [(0, .ref (B + a0)), (1, .int a1), (2, .int a2)] := hl
  exact c_M_mean_b0 C a0 a1 a2 w (lv_sub hl [0, 1, 2] rfl) hf hR va_S.rf
theorem d_M_book_0 : decode b_M_book 0 = .ok (.iload_n 1, 1) := by decide +kernel
theorem d_M_book_1 : decode b_M_book 1 = .ok (.iconst (-1), 1) := by decide +kernel
theorem d_M_book_2 : decode b_M_book 2 = .ok (.if_icmp .ne 10, 3) := by decide +kernel
theorem d_M_book_5 : decode b_M_book 5 = .ok (.aload_n 0, 1) := by decide +kernel
theorem d_M_book_6 : decode b_M_book 6 = .ok (.iconst 0, 1) := by decide +kernel
theorem d_M_book_7 : decode b_M_book 7 = .ok (.putfield 150, 3) := by decide +kernel
theorem d_M_book_10 : decode b_M_book 10 = .ok (.iconst 0, 1) := by decide +kernel
theorem d_M_book_11 : decode b_M_book 11 = .ok (.ireturn, 1) := by decide +kernel
theorem d_M_book_12 : decode b_M_book 12 = .ok (.aload_n 0, 1) := by decide +kernel
theorem d_M_book_13 : decode b_M_book 13 = .ok (.iload_n 1, 1) := by decide +kernel
theorem d_M_book_14 : decode b_M_book 14 = .ok (.invokevirtual 234, 3) := by decide +kernel
theorem d_M_book_17 : decode b_M_book 17 = .ok (.ifCond .ne 5, 3) := by decide +kernel
theorem d_M_book_20 : decode b_M_book 20 = .ok (.iconst (-1), 1) := by decide +kernel
theorem d_M_book_21 : decode b_M_book 21 = .ok (.ireturn, 1) := by decide +kernel
theorem d_M_book_22 : decode b_M_book 22 = .ok (.aload_n 0, 1) := by decide +kernel
theorem d_M_book_23 : decode b_M_book 23 = .ok (.iload_n 2, 1) := by decide +kernel
theorem d_M_book_24 : decode b_M_book 24 = .ok (.invokevirtual 348, 3) := by decide +kernel
theorem d_M_book_27 : decode b_M_book 27 = .ok (.ifCond .ne 6, 3) := by decide +kernel
theorem d_M_book_30 : decode b_M_book 30 = .ok (.bipush (-2), 2) := by decide +kernel
theorem d_M_book_32 : decode b_M_book 32 = .ok (.ireturn, 1) := by decide +kernel
theorem d_M_book_33 : decode b_M_book 33 = .ok (.aload_n 0, 1) := by decide +kernel
theorem d_M_book_34 : decode b_M_book 34 = .ok (.getfield 150, 3) := by decide +kernel
theorem d_M_book_37 : decode b_M_book 37 = .ok (.bipush 8, 2) := by decide +kernel
theorem d_M_book_39 : decode b_M_book 39 = .ok (.if_icmp .ne 6, 3) := by decide +kernel
theorem d_M_book_42 : decode b_M_book 42 = .ok (.bipush (-4), 2) := by decide +kernel
theorem d_M_book_44 : decode b_M_book 44 = .ok (.ireturn, 1) := by decide +kernel
theorem d_M_book_45 : decode b_M_book 45 = .ok (.aload_n 0, 1) := by decide +kernel
theorem d_M_book_46 : decode b_M_book 46 = .ok (.getfield 153, 3) := by decide +kernel
theorem d_M_book_49 : decode b_M_book 49 = .ok (.aload_n 0, 1) := by decide +kernel
theorem d_M_book_50 : decode b_M_book 50 = .ok (.getfield 150, 3) := by decide +kernel
theorem d_M_book_53 : decode b_M_book 53 = .ok (.iload_n 1, 1) := by decide +kernel
theorem d_M_book_54 : decode b_M_book 54 = .ok (.iastore, 1) := by decide +kernel
theorem d_M_book_55 : decode b_M_book 55 = .ok (.aload_n 0, 1) := by decide +kernel
theorem d_M_book_56 : decode b_M_book 56 = .ok (.getfield 156, 3) := by decide +kernel
theorem d_M_book_59 : decode b_M_book 59 = .ok (.aload_n 0, 1) := by decide +kernel
theorem d_M_book_60 : decode b_M_book 60 = .ok (.getfield 150, 3) := by decide +kernel
theorem d_M_book_63 : decode b_M_book 63 = .ok (.iload_n 2, 1) := by decide +kernel
theorem d_M_book_64 : decode b_M_book 64 = .ok (.iastore, 1) := by decide +kernel
theorem d_M_book_65 : decode b_M_book 65 = .ok (.aload_n 0, 1) := by decide +kernel
theorem d_M_book_66 : decode b_M_book 66 = .ok (.dup, 1) := by decide +kernel
theorem d_M_book_67 : decode b_M_book 67 = .ok (.getfield 150, 3) := by decide +kernel
theorem d_M_book_70 : decode b_M_book 70 = .ok (.iconst 1, 1) := by decide +kernel
theorem d_M_book_71 : decode b_M_book 71 = .ok (.iadd, 1) := by decide +kernel
theorem d_M_book_72 : decode b_M_book 72 = .ok (.putfield 150, 3) := by decide +kernel
theorem d_M_book_75 : decode b_M_book 75 = .ok (.aload_n 0, 1) := by decide +kernel
theorem d_M_book_76 : decode b_M_book 76 = .ok (.getfield 150, 3) := by decide +kernel
theorem d_M_book_79 : decode b_M_book 79 = .ok (.ireturn, 1) := by decide +kernel
set_option maxRecDepth 20000 in
theorem c_M_book_b0 {r : Int32} {wz : gW} (C : gC p s m args meth c "RidCoppersModel" b_M_book 3 (some .int) D cA oc B) (a0 : Nat) (a1 : Int32) (a2 : Int32) (w : gW) {ls : Array Slot} {H : Heap} {locs : List Loc} (hl : lv_has ls 3 [(0, .ref (B + a0)), (1, .int a1), (2, .int a2)]) (hf : f_M_book_b0 N a0 a1 a2 w = some (r, wz)) (hR : gRep D cA B w H) (hS : va_S (gA B) s.heap H locs) : W p l e ({ frames := 3, cells := 0, slots := 0, locals := 84 } : Room) s m args below meth c H locs 0 0 (MQ below (gQi D cA B r wz) args s 0 0 (gA B)) (F0 m 0 ls []) := by
  obtain ⟨hx, hb, hml, hown, hts, hr, hlocks, hK, hBs⟩ := id C
  unfold f_M_book_b0 at hf
  refine lv_iload_n hx hb d_M_book_0 rfl (lv_at hl 1 rfl) ?_
  refine lv_iconst (v := (-1)) hx hb d_M_book_1 (by decide) ?_
  refine lv_icmp_ne (tgt := 12) hx hb d_M_book_2 (by decide) (fun hc => ?_) (fun hc => ?_)
  · have hf := cd_f hc hf
    refine lv_aload_n hx hb d_M_book_12 rfl (lv_at hl 0 rfl) ?_
    refine lv_iload_n hx hb d_M_book_13 rfl (lv_at hl 1 rfl) ?_
    have ⟨h4, hf⟩ := gd_e hf
    have ⟨x1, w2, h3, hf⟩ := kl_e hf
    refine g_ki0 (g_rV (As := [.int a1]) (rest := []) hx hb hml hown hts hK hR hS (c_M_isPayer l D cA oc B N a0 a1 w h3) I_M_isPayer m_1212 mp_28 (gRecv hK hR (ci := 12) rfl h4) rfl rfl (Nat.le_of_ble_eq_true rfl) hl.1 ⟨Nat.le_of_ble_eq_true rfl, Nat.le_of_ble_eq_true rfl⟩ ⟨Nat.le_of_ble_eq_true rfl, Nat.le_of_ble_eq_true rfl⟩ d_M_book_14) hS (fun H locs hR hS => ?_)
    refine lv_if_ne (tgt := 22) hx hb d_M_book_17 (by decide) (fun hc => ?_) (fun hc => ?_)
    · have hf := cd_f hc hf
      refine lv_aload_n hx hb d_M_book_22 rfl (lv_at hl 0 rfl) ?_
      refine lv_iload_n hx hb d_M_book_23 rfl (lv_at hl 2 rfl) ?_
      have ⟨h8, hf⟩ := gd_e hf
      have ⟨x5, w6, h7, hf⟩ := kl_e hf
      refine g_ki0 (g_rV (As := [.int a2]) (rest := []) hx hb hml hown hts hK hR hS (c_M_isPrice l D cA oc B N a0 a2 w2 h7) I_M_isPrice m_1344 mp_54 (gRecv hK hR (ci := 12) rfl h8) rfl rfl (Nat.le_of_ble_eq_true rfl) hl.1 ⟨Nat.le_of_ble_eq_true rfl, Nat.le_of_ble_eq_true rfl⟩ ⟨Nat.le_of_ble_eq_true rfl, Nat.le_of_ble_eq_true rfl⟩ d_M_book_24) hS (fun H locs hR hS => ?_)
      refine lv_if_ne (tgt := 33) hx hb d_M_book_27 (by decide) (fun hc => ?_) (fun hc => ?_)
      · have hf := cd_f hc hf
        refine lv_aload_n hx hb d_M_book_33 rfl (lv_at hl 0 rfl) ?_
        have ⟨h9, hf⟩ := gd_e hf
        refine g_getI hx hb hts hown hK hR fl_M_150 (fun _ => rfl) h9 d_M_book_34 ?_
        refine g_nI hf (fun x10 hf => ?_)
        refine lv_bipush (v := 8) hx hb d_M_book_37 (by decide) ?_
        refine lv_icmp_ne (tgt := 45) hx hb d_M_book_39 (by decide) (fun hc => ?_) (fun hc => ?_)
        · have hf := cd_f hc hf
          refine lv_aload_n hx hb d_M_book_45 rfl (lv_at hl 0 rfl) ?_
          have ⟨x11, h12, hf⟩ := rr_e hf
          refine g_getR hx hb hts hown hK hR fl_M_153 (fun _ => rfl) h9 h12 d_M_book_46 ?_
          refine lv_aload_n hx hb d_M_book_49 rfl (lv_at hl 0 rfl) ?_
          refine g_getI hx hb hts hown hK hR fl_M_150 (fun _ => rfl) h9 d_M_book_50 ?_
          refine g_nI hf (fun x13 hf => ?_)
          refine lv_iload_n hx hb d_M_book_53 rfl (lv_at hl 1 rfl) ?_
          have ⟨h14, hf⟩ := gd_e hf
          have ⟨h15, hf⟩ := gd_e hf
          refine g_iast hx hb hK hR hS h14 h15 d_M_book_54 (fun H locs hR hS => ?_)
          refine g_nW hf hR (fun w16 hf hR => ?_)
          refine lv_aload_n hx hb d_M_book_55 rfl (lv_at hl 0 rfl) ?_
          have ⟨h17, hf⟩ := gd_e hf
          have ⟨x18, h19, hf⟩ := rr_e hf
          refine g_getR hx hb hts hown hK hR fl_M_156 (fun _ => rfl) h17 h19 d_M_book_56 ?_
          refine lv_aload_n hx hb d_M_book_59 rfl (lv_at hl 0 rfl) ?_
          refine g_getI hx hb hts hown hK hR fl_M_150 (fun _ => rfl) h17 d_M_book_60 ?_
          refine g_nI hf (fun x20 hf => ?_)
          refine lv_iload_n hx hb d_M_book_63 rfl (lv_at hl 2 rfl) ?_
          have ⟨h21, hf⟩ := gd_e hf
          have ⟨h22, hf⟩ := gd_e hf
          refine g_iast hx hb hK hR hS h21 h22 d_M_book_64 (fun H locs hR hS => ?_)
          refine g_nW hf hR (fun w23 hf hR => ?_)
          refine lv_aload_n hx hb d_M_book_65 rfl (lv_at hl 0 rfl) ?_
          refine lv_dup hx hb d_M_book_66 rfl ?_
          have ⟨h24, hf⟩ := gd_e hf
          refine g_getI hx hb hts hown hK hR fl_M_150 (fun _ => rfl) h24 d_M_book_67 ?_
          refine g_nI hf (fun x25 hf => ?_)
          refine lv_iconst (v := 1) hx hb d_M_book_70 (by decide) ?_
          refine lv_iadd hx hb d_M_book_71 ?_
          refine g_nI hf (fun x26 hf => ?_)
          refine g_putI hx hb hts hown hK hR hS pf_M_150 (fun _ => rfl) rfl rfl h24 d_M_book_72 (fun H locs hR hS => ?_)
          refine g_nW hf hR (fun w27 hf hR => ?_)
          refine lv_aload_n hx hb d_M_book_75 rfl (lv_at hl 0 rfl) ?_
          have ⟨h28, hf⟩ := gd_e hf
          refine g_getI hx hb hts hown hK hR fl_M_150 (fun _ => rfl) h28 d_M_book_76 ?_
          refine g_nI hf (fun x29 hf => ?_)
          exact g_iret hx hb hr hlocks hR hS hf rfl d_M_book_79
        have hf := cd_t hc hf
        refine lv_bipush (v := (-4)) hx hb d_M_book_42 (by decide) ?_
        exact g_iret hx hb hr hlocks hR hS hf rfl d_M_book_44
      have hf := cd_t hc hf
      refine lv_bipush (v := (-2)) hx hb d_M_book_30 (by decide) ?_
      exact g_iret hx hb hr hlocks hR hS hf rfl d_M_book_32
    have hf := cd_t hc hf
    refine lv_iconst (v := (-1)) hx hb d_M_book_20 (by decide) ?_
    exact g_iret hx hb hr hlocks hR hS hf rfl d_M_book_21
  have hf := cd_t hc hf
  refine lv_aload_n hx hb d_M_book_5 rfl (lv_at hl 0 rfl) ?_
  refine lv_iconst (v := 0) hx hb d_M_book_6 (by decide) ?_
  have ⟨h30, hf⟩ := gd_e hf
  refine g_putI hx hb hts hown hK hR hS pf_M_150 (fun _ => rfl) rfl rfl h30 d_M_book_7 (fun H locs hR hS => ?_)
  refine g_nW hf hR (fun w31 hf hR => ?_)
  refine lv_iconst (v := 0) hx hb d_M_book_10 (by decide) ?_
  exact g_iret hx hb hr hlocks hR hS hf rfl d_M_book_11
theorem c_M_book (l : Launch) (D : va_G) (cA : Nat → ClassId) (oc : gO) (B N : Nat) (a0 : Nat) (a1 : Int32) (a2 : Int32) (w : gW) {wz : gW} {r : Int32} (hf : f_M_book N a0 a1 a2 w = some (r, wz)) : Met l y_M_book (Cond.code y_M_book b_M_book 3 (some .int) :: lw_good) ({ frames := 3, cells := 0, slots := 0, locals := 84 } : Room) (gPre D cA oc B [.ref (B + a0), .int a1, .int a2] w) (gQi D cA B r wz) 0 0 (gA B) := by
  refine Met.ofW (cc := b_M_book) (maxL := 3) (ret := (some .int)) (by decide +kernel) rfl ?_
  intro p e s m args below meth c s₁ Bd hml hv
  obtain ⟨hargs, C, hR⟩ := gC.enter (l := l) rfl Bd hml hv
  subst hargs
  have hl := lv_entry ([.ref (B + a0), .int a1, .int a2]) (n := 3) (Nat.le_of_ble_eq_true rfl)
  rw [lg_entry_eq]
  generalize (lg_sl ([.ref (B + a0), .int a1, .int a2]) ++ List.replicate (3 - (lg_sl ([.ref (B + a0), .int a1, .int a2])).length) Slot.unset).toArray = ls at hl ⊢
  have hl : lv_has ls 3 [(0, .ref (B + a0)), (1, .int a1), (2, .int a2)] := hl
  exact c_M_book_b0 C a0 a1 a2 w (lv_sub hl [0, 1, 2] rfl) hf hR va_S.rf
theorem d_M_looked_0 : decode b_M_looked 0 = .ok (.aload_n 0, 1) := by decide +kernel
theorem d_M_looked_1 : decode b_M_looked 1 = .ok (.invokevirtual 357, 3) := by decide +kernel
theorem d_M_looked_4 : decode b_M_looked 4 = .ok (.bipush (-5), 2) := by decide +kernel
theorem d_M_looked_6 : decode b_M_looked 6 = .ok (.istore_n 1, 1) := by decide +kernel
theorem d_M_looked_7 : decode b_M_looked 7 = .ok (.iconst 0, 1) := by decide +kernel
theorem d_M_looked_8 : decode b_M_looked 8 = .ok (.istore_n 2, 1) := by decide +kernel
theorem d_M_looked_9 : decode b_M_looked 9 = .ok (.iload_n 2, 1) := by decide +kernel
theorem d_M_looked_10 : decode b_M_looked 10 = .ok (.aload_n 0, 1) := by decide +kernel
theorem d_M_looked_11 : decode b_M_looked 11 = .ok (.getfield 150, 3) := by decide +kernel
theorem d_M_looked_14 : decode b_M_looked 14 = .ok (.if_icmp .ge 39, 3) := by decide +kernel
theorem d_M_looked_17 : decode b_M_looked 17 = .ok (.iload_n 1, 1) := by decide +kernel
theorem d_M_looked_18 : decode b_M_looked 18 = .ok (.ifCond .ge 35, 3) := by decide +kernel
theorem d_M_looked_21 : decode b_M_looked 21 = .ok (.aload_n 0, 1) := by decide +kernel
theorem d_M_looked_22 : decode b_M_looked 22 = .ok (.aload_n 0, 1) := by decide +kernel
theorem d_M_looked_23 : decode b_M_looked 23 = .ok (.getfield 153, 3) := by decide +kernel
theorem d_M_looked_26 : decode b_M_looked 26 = .ok (.iload_n 2, 1) := by decide +kernel
theorem d_M_looked_27 : decode b_M_looked 27 = .ok (.iaload, 1) := by decide +kernel
theorem d_M_looked_28 : decode b_M_looked 28 = .ok (.aload_n 0, 1) := by decide +kernel
theorem d_M_looked_29 : decode b_M_looked 29 = .ok (.getfield 156, 3) := by decide +kernel
theorem d_M_looked_32 : decode b_M_looked 32 = .ok (.iload_n 2, 1) := by decide +kernel
theorem d_M_looked_33 : decode b_M_looked 33 = .ok (.iaload, 1) := by decide +kernel
theorem d_M_looked_34 : decode b_M_looked 34 = .ok (.invokevirtual 351, 3) := by decide +kernel
theorem d_M_looked_37 : decode b_M_looked 37 = .ok (.ifCond .eq 8, 3) := by decide +kernel
theorem d_M_looked_40 : decode b_M_looked 40 = .ok (.bipush (-5), 2) := by decide +kernel
theorem d_M_looked_42 : decode b_M_looked 42 = .ok (.goto 4, 3) := by decide +kernel
theorem d_M_looked_45 : decode b_M_looked 45 = .ok (.iload_n 2, 1) := by decide +kernel
theorem d_M_looked_46 : decode b_M_looked 46 = .ok (.istore_n 1, 1) := by decide +kernel
theorem d_M_looked_47 : decode b_M_looked 47 = .ok (.iinc 2 1, 3) := by decide +kernel
theorem d_M_looked_50 : decode b_M_looked 50 = .ok (.goto (-41), 3) := by decide +kernel
theorem d_M_looked_53 : decode b_M_looked 53 = .ok (.aload_n 0, 1) := by decide +kernel
theorem d_M_looked_54 : decode b_M_looked 54 = .ok (.invokevirtual 360, 3) := by decide +kernel
theorem d_M_looked_57 : decode b_M_looked 57 = .ok (.iload_n 1, 1) := by decide +kernel
theorem d_M_looked_58 : decode b_M_looked 58 = .ok (.ireturn, 1) := by decide +kernel
set_option maxRecDepth 20000 in
theorem c_M_looked_b53 {r : Int32} {wz : gW} (C : gC p s m args meth c "RidCoppersModel" b_M_looked 3 (some .int) D cA oc B) (a0 : Nat) (a1 : Int32) (w : gW) {ls : Array Slot} {H : Heap} {locs : List Loc} (hl : lv_has ls 3 [(0, .ref (B + a0)), (1, .int a1)]) (hf : f_M_looked_b53 N a0 a1 w = some (r, wz)) (hR : gRep D cA B w H) (hS : va_S (gA B) s.heap H locs) : W p l e ({ frames := 8, cells := 0, slots := 0, locals := 213 } : Room) s m args below meth c H locs 0 0 (MQ below (gQi D cA B r wz) args s 0 0 (gA B)) (F0 m 53 ls []) := by
  obtain ⟨hx, hb, hml, hown, hts, hr, hlocks, hK, hBs⟩ := id C
  unfold f_M_looked_b53 at hf
  refine lv_aload_n hx hb d_M_looked_53 rfl (lv_at hl 0 rfl) ?_
  have ⟨h10, hf⟩ := gd_e hf
  have ⟨x7, w8, h9, hf⟩ := kl_e hf
  refine g_kv0 (g_rV (As := []) (rest := []) hx hb hml hown hts hK hR hS (c_M_putBack l D cA oc B N a0 w h9) I_M_putBack m_1404 mp_68 (gRecv hK hR (ci := 12) rfl h10) rfl rfl (Nat.le_of_ble_eq_true rfl) hl.1 ⟨Nat.le_of_ble_eq_true rfl, Nat.le_of_ble_eq_true rfl⟩ ⟨Nat.le_of_ble_eq_true rfl, Nat.le_of_ble_eq_true rfl⟩ d_M_looked_54) hS (fun H locs hR hS => ?_)
  refine lv_iload_n hx hb d_M_looked_57 rfl (lv_at hl 1 rfl) ?_
  exact g_iret hx hb hr hlocks hR hS hf rfl d_M_looked_58
set_option maxRecDepth 20000 in
theorem c_M_looked_b9 {r : Int32} {wz : gW} {rec9 : Nat × Int32 × Int32 × gW → Option (Int32 × gW)} (ih9 : ∀ (a0 : Nat) (a1 : Int32) (a2 : Int32) (w : gW) (ls : Array Slot) (H : Heap) (locs : List Loc), rec9 (a0, a1, a2, w) = some (r, wz) → lv_has ls 3 [(0, .ref (B + a0)), (1, .int a1), (2, .int a2)] → gRep D cA B w H → va_S (gA B) s.heap H locs → W p l e ({ frames := 8, cells := 0, slots := 0, locals := 213 } : Room) s m args below meth c H locs 0 0 (MQ below (gQi D cA B r wz) args s 0 0 (gA B)) (F0 m 9 ls [])) (C : gC p s m args meth c "RidCoppersModel" b_M_looked 3 (some .int) D cA oc B) (a0 : Nat) (a1 : Int32) (a2 : Int32) (w : gW) {ls : Array Slot} {H : Heap} {locs : List Loc} (hl : lv_has ls 3 [(0, .ref (B + a0)), (1, .int a1), (2, .int a2)]) (hf : f_M_looked_b9 N rec9 a0 a1 a2 w = some (r, wz)) (hR : gRep D cA B w H) (hS : va_S (gA B) s.heap H locs) : W p l e ({ frames := 8, cells := 0, slots := 0, locals := 213 } : Room) s m args below meth c H locs 0 0 (MQ below (gQi D cA B r wz) args s 0 0 (gA B)) (F0 m 9 ls []) := by
  obtain ⟨hx, hb, hml, hown, hts, hr, hlocks, hK, hBs⟩ := id C
  unfold f_M_looked_b9 at hf
  refine lv_iload_n hx hb d_M_looked_9 rfl (lv_at hl 2 rfl) ?_
  refine lv_aload_n hx hb d_M_looked_10 rfl (lv_at hl 0 rfl) ?_
  have ⟨h5, hf⟩ := gd_e hf
  refine g_getI hx hb hts hown hK hR fl_M_150 (fun _ => rfl) h5 d_M_looked_11 ?_
  refine g_nI hf (fun x6 hf => ?_)
  refine lv_icmp_ge (tgt := 53) hx hb d_M_looked_14 (by decide) (fun hc => ?_) (fun hc => ?_)
  · have hf := cd_t hc hf
    exact c_M_looked_b53 C a0 a1 w (lv_sub hl [0, 1] rfl) hf hR hS
  have hf := cd_f hc hf
  refine lv_iload_n hx hb d_M_looked_17 rfl (lv_at hl 1 rfl) ?_
  refine lv_if_ge (tgt := 53) hx hb d_M_looked_18 (by decide) (fun hc => ?_) (fun hc => ?_)
  · have hf := cd_t hc hf
    exact c_M_looked_b53 C a0 a1 w (lv_sub hl [0, 1] rfl) hf hR hS
  have hf := cd_f hc hf
  refine lv_aload_n hx hb d_M_looked_21 rfl (lv_at hl 0 rfl) ?_
  refine lv_aload_n hx hb d_M_looked_22 rfl (lv_at hl 0 rfl) ?_
  have ⟨x11, h12, hf⟩ := rr_e hf
  refine g_getR hx hb hts hown hK hR fl_M_153 (fun _ => rfl) h5 h12 d_M_looked_23 ?_
  refine lv_iload_n hx hb d_M_looked_26 rfl (lv_at hl 2 rfl) ?_
  have ⟨h13, hf⟩ := gd_e hf
  have ⟨h14, hf⟩ := gd_e hf
  refine g_iald hx hb hK hR h13 h14 d_M_looked_27 ?_
  refine g_nI hf (fun x15 hf => ?_)
  refine lv_aload_n hx hb d_M_looked_28 rfl (lv_at hl 0 rfl) ?_
  have ⟨x16, h17, hf⟩ := rr_e hf
  refine g_getR hx hb hts hown hK hR fl_M_156 (fun _ => rfl) h5 h17 d_M_looked_29 ?_
  refine lv_iload_n hx hb d_M_looked_32 rfl (lv_at hl 2 rfl) ?_
  have ⟨h18, hf⟩ := gd_e hf
  have ⟨h19, hf⟩ := gd_e hf
  refine g_iald hx hb hK hR h18 h19 d_M_looked_33 ?_
  refine g_nI hf (fun x20 hf => ?_)
  have ⟨x21, w22, h23, hf⟩ := kl_e hf
  refine g_ki0 (g_rV (As := [.int x15, .int x20]) (rest := []) hx hb hml hown hts hK hR hS (c_M_goes l D cA oc B N a0 x15 x20 w h23) I_M_goes m_1348 mp_55 (gRecv hK hR (ci := 12) rfl h5) rfl rfl (Nat.le_of_ble_eq_true rfl) hl.1 ⟨Nat.le_of_ble_eq_true rfl, Nat.le_of_ble_eq_true rfl⟩ ⟨Nat.le_of_ble_eq_true rfl, Nat.le_of_ble_eq_true rfl⟩ d_M_looked_34) hS (fun H locs hR hS => ?_)
  refine lv_if_eq (tgt := 45) hx hb d_M_looked_37 (by decide) (fun hc => ?_) (fun hc => ?_)
  · have hf := cd_t hc hf
    refine lv_iload_n hx hb d_M_looked_45 rfl (lv_at hl 2 rfl) ?_
    refine lv_istore_n (lv' := [(1, .int a2), (0, .ref (B + a0)), (2, .int a2)]) hx hb d_M_looked_46 rfl hl (by decide) rfl (fun ls hl => ?_)
    refine g_iinc (lv' := fun x24 => [(2, .int x24), (1, .int a2), (0, .ref (B + a0))]) hf hx hb d_M_looked_47 hl (k := 2) rfl (by decide) (by decide) (fun _ => rfl) (fun x24 ls hf hl => ?_)
    refine lv_goto (tgt := 9) hx hb d_M_looked_50 (by decide) ?_
    exact ih9 a0 a2 x24 w22 _ _ _ hf (lv_sub hl [2, 1, 0] rfl) hR hS
  have hf := cd_f hc hf
  refine lv_bipush (v := (-5)) hx hb d_M_looked_40 (by decide) ?_
  refine lv_goto (tgt := 46) hx hb d_M_looked_42 (by decide) ?_
  refine lv_istore_n (lv' := [(1, .int (-5)), (0, .ref (B + a0)), (2, .int a2)]) hx hb d_M_looked_46 rfl hl (by decide) rfl (fun ls hl => ?_)
  refine g_iinc (lv' := fun x25 => [(2, .int x25), (1, .int (-5)), (0, .ref (B + a0))]) hf hx hb d_M_looked_47 hl (k := 2) rfl (by decide) (by decide) (fun _ => rfl) (fun x25 ls hf hl => ?_)
  refine lv_goto (tgt := 9) hx hb d_M_looked_50 (by decide) ?_
  exact ih9 a0 (-5) x25 w22 _ _ _ hf (lv_sub hl [2, 1, 0] rfl) hR hS
theorem c_M_looked_l9 {r : Int32} {wz : gW} (C : gC p s m args meth c "RidCoppersModel" b_M_looked 3 (some .int) D cA oc B) (a0 : Nat) (a1 : Int32) (a2 : Int32) (w : gW) {ls : Array Slot} {H : Heap} {locs : List Loc} (hl : lv_has ls 3 [(0, .ref (B + a0)), (1, .int a1), (2, .int a2)]) (hf : f_M_looked_l9 N a0 a1 a2 w = some (r, wz)) (hR : gRep D cA B w H) (hS : va_S (gA B) s.heap H locs) : W p l e ({ frames := 8, cells := 0, slots := 0, locals := 213 } : Room) s m args below meth c H locs 0 0 (MQ below (gQi D cA B r wz) args s 0 0 (gA B)) (F0 m 9 ls []) := by
  unfold f_M_looked_l9 at hf
  suffices hh : ∀ n : Nat, ∀ (a0 : Nat) (a1 : Int32) (a2 : Int32) (w : gW) (ls : Array Slot) (H : Heap) (locs : List Loc), itr (fun rec (q : Nat × Int32 × Int32 × gW) => f_M_looked_b9 N rec q.1 q.2.1 q.2.2.1 q.2.2.2) n (a0, a1, a2, w) = some (r, wz) → lv_has ls 3 [(0, .ref (B + a0)), (1, .int a1), (2, .int a2)] → gRep D cA B w H → va_S (gA B) s.heap H locs → W p l e ({ frames := 8, cells := 0, slots := 0, locals := 213 } : Room) s m args below meth c H locs 0 0 (MQ below (gQi D cA B r wz) args s 0 0 (gA B)) (F0 m 9 ls []) from hh N a0 a1 a2 w ls H locs hf hl hR hS
  intro n
  induction n with
  | zero => intro a0 a1 a2 w ls H locs hf; cases hf
  | succ n ihn =>
    intro a0 a1 a2 w ls H locs hf hl hR hS
    exact c_M_looked_b9 (N := N) ihn C a0 a1 a2 w hl ((itr_s _ _ _).symm.trans hf) hR hS
set_option maxRecDepth 20000 in
theorem c_M_looked_b0 {r : Int32} {wz : gW} (C : gC p s m args meth c "RidCoppersModel" b_M_looked 3 (some .int) D cA oc B) (a0 : Nat) (w : gW) {ls : Array Slot} {H : Heap} {locs : List Loc} (hl : lv_has ls 3 [(0, .ref (B + a0))]) (hf : f_M_looked_b0 N a0 w = some (r, wz)) (hR : gRep D cA B w H) (hS : va_S (gA B) s.heap H locs) : W p l e ({ frames := 8, cells := 0, slots := 0, locals := 213 } : Room) s m args below meth c H locs 0 0 (MQ below (gQi D cA B r wz) args s 0 0 (gA B)) (F0 m 0 ls []) := by
  obtain ⟨hx, hb, hml, hown, hts, hr, hlocks, hK, hBs⟩ := id C
  unfold f_M_looked_b0 at hf
  refine lv_aload_n hx hb d_M_looked_0 rfl (lv_at hl 0 rfl) ?_
  have ⟨h4, hf⟩ := gd_e hf
  have ⟨x1, w2, h3, hf⟩ := kl_e hf
  refine g_kv0 (g_rV (As := []) (rest := []) hx hb hml hown hts hK hR hS (c_M_save l D cA oc B N a0 w h3) I_M_save m_1400 mp_67 (gRecv hK hR (ci := 12) rfl h4) rfl rfl (Nat.le_of_ble_eq_true rfl) hl.1 ⟨Nat.le_of_ble_eq_true rfl, Nat.le_of_ble_eq_true rfl⟩ ⟨Nat.le_of_ble_eq_true rfl, Nat.le_of_ble_eq_true rfl⟩ d_M_looked_1) hS (fun H locs hR hS => ?_)
  refine lv_bipush (v := (-5)) hx hb d_M_looked_4 (by decide) ?_
  refine lv_istore_n (lv' := [(1, .int (-5)), (0, .ref (B + a0))]) hx hb d_M_looked_6 rfl hl (by decide) rfl (fun ls hl => ?_)
  refine lv_iconst (v := 0) hx hb d_M_looked_7 (by decide) ?_
  refine lv_istore_n (lv' := [(2, .int 0), (1, .int (-5)), (0, .ref (B + a0))]) hx hb d_M_looked_8 rfl hl (by decide) rfl (fun ls hl => ?_)
  exact c_M_looked_l9 C a0 (-5) 0 w2 (lv_sub hl [2, 1, 0] rfl) hf hR hS
theorem c_M_looked (l : Launch) (D : va_G) (cA : Nat → ClassId) (oc : gO) (B N : Nat) (a0 : Nat) (w : gW) {wz : gW} {r : Int32} (hf : f_M_looked N a0 w = some (r, wz)) : Met l y_M_looked (Cond.code y_M_looked b_M_looked 3 (some .int) :: lw_good) ({ frames := 8, cells := 0, slots := 0, locals := 213 } : Room) (gPre D cA oc B [.ref (B + a0)] w) (gQi D cA B r wz) 0 0 (gA B) := by
  refine Met.ofW (cc := b_M_looked) (maxL := 3) (ret := (some .int)) (by decide +kernel) rfl ?_
  intro p e s m args below meth c s₁ Bd hml hv
  obtain ⟨hargs, C, hR⟩ := gC.enter (l := l) rfl Bd hml hv
  subst hargs
  have hl := lv_entry ([.ref (B + a0)]) (n := 3) (Nat.le_of_ble_eq_true rfl)
  rw [lg_entry_eq]
  generalize (lg_sl ([.ref (B + a0)]) ++ List.replicate (3 - (lg_sl ([.ref (B + a0)])).length) Slot.unset).toArray = ls at hl ⊢
  have hl : lv_has ls 3 [(0, .ref (B + a0))] := hl
  exact c_M_looked_b0 C a0 w (lv_sub hl [0] rfl) hf hR va_S.rf
theorem d_M_isTape_0 : decode b_M_isTape 0 = .ok (.aload_n 0, 1) := by decide +kernel
theorem d_M_isTape_1 : decode b_M_isTape 1 = .ok (.iload_n 1, 1) := by decide +kernel
theorem d_M_isTape_2 : decode b_M_isTape 2 = .ok (.iconst 0, 1) := by decide +kernel
theorem d_M_isTape_3 : decode b_M_isTape 3 = .ok (.iconst 5, 1) := by decide +kernel
theorem d_M_isTape_4 : decode b_M_isTape 4 = .ok (.invokevirtual 230, 3) := by decide +kernel
theorem d_M_isTape_7 : decode b_M_isTape 7 = .ok (.ireturn, 1) := by decide +kernel
set_option maxRecDepth 20000 in
theorem c_M_isTape_b0 {r : Int32} {wz : gW} (C : gC p s m args meth c "RidCoppersModel" b_M_isTape 2 (some .boolean) D cA oc B) (a0 : Nat) (a1 : Int32) (w : gW) {ls : Array Slot} {H : Heap} {locs : List Loc} (hl : lv_has ls 2 [(0, .ref (B + a0)), (1, .int a1)]) (hf : f_M_isTape_b0 N a0 a1 w = some (r, wz)) (hR : gRep D cA B w H) (hS : va_S (gA B) s.heap H locs) : W p l e ({ frames := 2, cells := 0, slots := 0, locals := 63 } : Room) s m args below meth c H locs 0 0 (MQ below (gQi D cA B r wz) args s 0 0 (gA B)) (F0 m 0 ls []) := by
  obtain ⟨hx, hb, hml, hown, hts, hr, hlocks, hK, hBs⟩ := id C
  unfold f_M_isTape_b0 at hf
  refine lv_aload_n hx hb d_M_isTape_0 rfl (lv_at hl 0 rfl) ?_
  refine lv_iload_n hx hb d_M_isTape_1 rfl (lv_at hl 1 rfl) ?_
  refine lv_iconst (v := 0) hx hb d_M_isTape_2 (by decide) ?_
  refine lv_iconst (v := 5) hx hb d_M_isTape_3 (by decide) ?_
  have ⟨h4, hf⟩ := gd_e hf
  have ⟨x1, w2, h3, hf⟩ := kl_e hf
  refine g_ki0 (g_rV (As := [.int a1, .int 0, .int 5]) (rest := []) hx hb hml hown hts hK hR hS (c_M_in l D cA oc B N a0 a1 0 5 w h3) I_M_in m_1204 mp_27 (gRecv hK hR (ci := 12) rfl h4) rfl rfl (Nat.le_of_ble_eq_true rfl) hl.1 ⟨Nat.le_of_ble_eq_true rfl, Nat.le_of_ble_eq_true rfl⟩ ⟨Nat.le_of_ble_eq_true rfl, Nat.le_of_ble_eq_true rfl⟩ d_M_isTape_4) hS (fun H locs hR hS => ?_)
  have ⟨h5, hf⟩ := gd_e hf
  exact g_iret hx hb hr hlocks hR hS hf (nb01 h5) d_M_isTape_7
theorem c_M_isTape (l : Launch) (D : va_G) (cA : Nat → ClassId) (oc : gO) (B N : Nat) (a0 : Nat) (a1 : Int32) (w : gW) {wz : gW} {r : Int32} (hf : f_M_isTape N a0 a1 w = some (r, wz)) : Met l y_M_isTape (Cond.code y_M_isTape b_M_isTape 2 (some .boolean) :: lw_good) ({ frames := 2, cells := 0, slots := 0, locals := 63 } : Room) (gPre D cA oc B [.ref (B + a0), .int a1] w) (gQi D cA B r wz) 0 0 (gA B) := by
  refine Met.ofW (cc := b_M_isTape) (maxL := 2) (ret := (some .boolean)) (by decide +kernel) rfl ?_
  intro p e s m args below meth c s₁ Bd hml hv
  obtain ⟨hargs, C, hR⟩ := gC.enter (l := l) rfl Bd hml hv
  subst hargs
  have hl := lv_entry ([.ref (B + a0), .int a1]) (n := 2) (Nat.le_of_ble_eq_true rfl)
  rw [lg_entry_eq]
  generalize (lg_sl ([.ref (B + a0), .int a1]) ++ List.replicate (2 - (lg_sl ([.ref (B + a0), .int a1])).length) Slot.unset).toArray = ls at hl ⊢
  have hl : lv_has ls 2 [(0, .ref (B + a0)), (1, .int a1)] := hl
  exact c_M_isTape_b0 C a0 a1 w (lv_sub hl [0, 1] rfl) hf hR va_S.rf
theorem d_M_judge_0 : decode b_M_judge 0 = .ok (.aload_n 0, 1) := by decide +kernel
theorem d_M_judge_1 : decode b_M_judge 1 = .ok (.iload_n 1, 1) := by decide +kernel
theorem d_M_judge_2 : decode b_M_judge 2 = .ok (.invokevirtual 383, 3) := by decide +kernel
theorem d_M_judge_5 : decode b_M_judge 5 = .ok (.ifCond .ne 5, 3) := by decide +kernel
theorem d_M_judge_8 : decode b_M_judge 8 = .ok (.iconst (-1), 1) := by decide +kernel
theorem d_M_judge_9 : decode b_M_judge 9 = .ok (.ireturn, 1) := by decide +kernel
theorem d_M_judge_10 : decode b_M_judge 10 = .ok (.aload_n 0, 1) := by decide +kernel
theorem d_M_judge_11 : decode b_M_judge 11 = .ok (.getfield 217, 3) := by decide +kernel
theorem d_M_judge_14 : decode b_M_judge 14 = .ok (.iload_n 1, 1) := by decide +kernel
theorem d_M_judge_15 : decode b_M_judge 15 = .ok (.iaload, 1) := by decide +kernel
theorem d_M_judge_16 : decode b_M_judge 16 = .ok (.ifCond .le 6, 3) := by decide +kernel
theorem d_M_judge_19 : decode b_M_judge 19 = .ok (.bipush (-12), 2) := by decide +kernel
theorem d_M_judge_21 : decode b_M_judge 21 = .ok (.ireturn, 1) := by decide +kernel
theorem d_M_judge_22 : decode b_M_judge 22 = .ok (.iconst 0, 1) := by decide +kernel
theorem d_M_judge_23 : decode b_M_judge 23 = .ok (.istore_n 3, 1) := by decide +kernel
theorem d_M_judge_24 : decode b_M_judge 24 = .ok (.iload_n 3, 1) := by decide +kernel
theorem d_M_judge_25 : decode b_M_judge 25 = .ok (.bipush 6, 2) := by decide +kernel
theorem d_M_judge_27 : decode b_M_judge 27 = .ok (.if_icmp .ge 67, 3) := by decide +kernel
theorem d_M_judge_30 : decode b_M_judge 30 = .ok (.aload_n 0, 1) := by decide +kernel
theorem d_M_judge_31 : decode b_M_judge 31 = .ok (.getfield 217, 3) := by decide +kernel
theorem d_M_judge_34 : decode b_M_judge 34 = .ok (.iload_n 1, 1) := by decide +kernel
theorem d_M_judge_35 : decode b_M_judge 35 = .ok (.iaload, 1) := by decide +kernel
theorem d_M_judge_36 : decode b_M_judge 36 = .ok (.ifCond .lt 21, 3) := by decide +kernel
theorem d_M_judge_39 : decode b_M_judge 39 = .ok (.iload_n 2, 1) := by decide +kernel
theorem d_M_judge_40 : decode b_M_judge 40 = .ok (.ifCond .lt 17, 3) := by decide +kernel
theorem d_M_judge_43 : decode b_M_judge 43 = .ok (.iload_n 2, 1) := by decide +kernel
theorem d_M_judge_44 : decode b_M_judge 44 = .ok (.aload_n 0, 1) := by decide +kernel
theorem d_M_judge_45 : decode b_M_judge 45 = .ok (.getfield 220, 3) := by decide +kernel
theorem d_M_judge_48 : decode b_M_judge 48 = .ok (.iload_n 1, 1) := by decide +kernel
theorem d_M_judge_49 : decode b_M_judge 49 = .ok (.iaload, 1) := by decide +kernel
theorem d_M_judge_50 : decode b_M_judge 50 = .ok (.iload_n 3, 1) := by decide +kernel
theorem d_M_judge_51 : decode b_M_judge 51 = .ok (.isub, 1) := by decide +kernel
theorem d_M_judge_52 : decode b_M_judge 52 = .ok (.iconst 1, 1) := by decide +kernel
theorem d_M_judge_53 : decode b_M_judge 53 = .ok (.isub, 1) := by decide +kernel
theorem d_M_judge_54 : decode b_M_judge 54 = .ok (.if_icmp .le 8, 3) := by decide +kernel
theorem d_M_judge_57 : decode b_M_judge 57 = .ok (.bipush 100, 2) := by decide +kernel
theorem d_M_judge_59 : decode b_M_judge 59 = .ok (.iload_n 3, 1) := by decide +kernel
theorem d_M_judge_60 : decode b_M_judge 60 = .ok (.iadd, 1) := by decide +kernel
theorem d_M_judge_61 : decode b_M_judge 61 = .ok (.ireturn, 1) := by decide +kernel
theorem d_M_judge_62 : decode b_M_judge 62 = .ok (.aload_n 0, 1) := by decide +kernel
theorem d_M_judge_63 : decode b_M_judge 63 = .ok (.getfield 223, 3) := by decide +kernel
theorem d_M_judge_66 : decode b_M_judge 66 = .ok (.bipush 60, 2) := by decide +kernel
theorem d_M_judge_68 : decode b_M_judge 68 = .ok (.iload_n 1, 1) := by decide +kernel
theorem d_M_judge_69 : decode b_M_judge 69 = .ok (.imul, 1) := by decide +kernel
theorem d_M_judge_70 : decode b_M_judge 70 = .ok (.iload_n 2, 1) := by decide +kernel
theorem d_M_judge_71 : decode b_M_judge 71 = .ok (.iadd, 1) := by decide +kernel
theorem d_M_judge_72 : decode b_M_judge 72 = .ok (.iload_n 3, 1) := by decide +kernel
theorem d_M_judge_73 : decode b_M_judge 73 = .ok (.iadd, 1) := by decide +kernel
theorem d_M_judge_74 : decode b_M_judge 74 = .ok (.laload, 1) := by decide +kernel
theorem d_M_judge_75 : decode b_M_judge 75 = .ok (.aload_n 0, 1) := by decide +kernel
theorem d_M_judge_76 : decode b_M_judge 76 = .ok (.getfield 32, 3) := by decide +kernel
theorem d_M_judge_79 : decode b_M_judge 79 = .ok (.iload_n 3, 1) := by decide +kernel
theorem d_M_judge_80 : decode b_M_judge 80 = .ok (.iaload, 1) := by decide +kernel
theorem d_M_judge_81 : decode b_M_judge 81 = .ok (.i2l, 1) := by decide +kernel
theorem d_M_judge_82 : decode b_M_judge 82 = .ok (.lcmp, 1) := by decide +kernel
theorem d_M_judge_83 : decode b_M_judge 83 = .ok (.ifCond .eq 5, 3) := by decide +kernel
theorem d_M_judge_86 : decode b_M_judge 86 = .ok (.iload_n 3, 1) := by decide +kernel
theorem d_M_judge_87 : decode b_M_judge 87 = .ok (.ireturn, 1) := by decide +kernel
theorem d_M_judge_88 : decode b_M_judge 88 = .ok (.iinc 3 1, 3) := by decide +kernel
theorem d_M_judge_91 : decode b_M_judge 91 = .ok (.goto (-67), 3) := by decide +kernel
theorem d_M_judge_94 : decode b_M_judge 94 = .ok (.bipush (-5), 2) := by decide +kernel
theorem d_M_judge_96 : decode b_M_judge 96 = .ok (.ireturn, 1) := by decide +kernel
set_option maxRecDepth 20000 in
theorem c_M_judge_b24 {r : Int32} {wz : gW} {rec24 : Nat × Int32 × Int32 × Int32 × gW → Option (Int32 × gW)} (ih24 : ∀ (a0 : Nat) (a1 : Int32) (a2 : Int32) (a3 : Int32) (w : gW) (ls : Array Slot) (H : Heap) (locs : List Loc), rec24 (a0, a1, a2, a3, w) = some (r, wz) → lv_has ls 4 [(0, .ref (B + a0)), (1, .int a1), (2, .int a2), (3, .int a3)] → gRep D cA B w H → va_S (gA B) s.heap H locs → W p l e ({ frames := 3, cells := 0, slots := 0, locals := 84 } : Room) s m args below meth c H locs 0 0 (MQ below (gQi D cA B r wz) args s 0 0 (gA B)) (F0 m 24 ls [])) (C : gC p s m args meth c "RidCoppersModel" b_M_judge 4 (some .int) D cA oc B) (a0 : Nat) (a1 : Int32) (a2 : Int32) (a3 : Int32) (w : gW) {ls : Array Slot} {H : Heap} {locs : List Loc} (hl : lv_has ls 4 [(0, .ref (B + a0)), (1, .int a1), (2, .int a2), (3, .int a3)]) (hf : f_M_judge_b24 N rec24 a0 a1 a2 a3 w = some (r, wz)) (hR : gRep D cA B w H) (hS : va_S (gA B) s.heap H locs) : W p l e ({ frames := 3, cells := 0, slots := 0, locals := 84 } : Room) s m args below meth c H locs 0 0 (MQ below (gQi D cA B r wz) args s 0 0 (gA B)) (F0 m 24 ls []) := by
  obtain ⟨hx, hb, hml, hown, hts, hr, hlocks, hK, hBs⟩ := id C
  unfold f_M_judge_b24 at hf
  refine lv_iload_n hx hb d_M_judge_24 rfl (lv_at hl 3 rfl) ?_
  refine lv_bipush (v := 6) hx hb d_M_judge_25 (by decide) ?_
  refine lv_icmp_ge (tgt := 94) hx hb d_M_judge_27 (by decide) (fun hc => ?_) (fun hc => ?_)
  · have hf := cd_t hc hf
    refine lv_bipush (v := (-5)) hx hb d_M_judge_94 (by decide) ?_
    exact g_iret hx hb hr hlocks hR hS hf rfl d_M_judge_96
  have hf := cd_f hc hf
  refine lv_aload_n hx hb d_M_judge_30 rfl (lv_at hl 0 rfl) ?_
  have ⟨h11, hf⟩ := gd_e hf
  have ⟨x12, h13, hf⟩ := rr_e hf
  refine g_getR hx hb hts hown hK hR fl_M_217 (fun _ => rfl) h11 h13 d_M_judge_31 ?_
  refine lv_iload_n hx hb d_M_judge_34 rfl (lv_at hl 1 rfl) ?_
  have ⟨h14, hf⟩ := gd_e hf
  have ⟨h15, hf⟩ := gd_e hf
  refine g_iald hx hb hK hR h14 h15 d_M_judge_35 ?_
  refine g_nI hf (fun x16 hf => ?_)
  refine lv_if_lt (tgt := 57) hx hb d_M_judge_36 (by decide) (fun hc => ?_) (fun hc => ?_)
  · have hf := cd_t hc hf
    refine lv_bipush (v := 100) hx hb d_M_judge_57 (by decide) ?_
    refine lv_iload_n hx hb d_M_judge_59 rfl (lv_at hl 3 rfl) ?_
    refine lv_iadd hx hb d_M_judge_60 ?_
    refine g_nI hf (fun x17 hf => ?_)
    exact g_iret hx hb hr hlocks hR hS hf rfl d_M_judge_61
  have hf := cd_f hc hf
  refine lv_iload_n hx hb d_M_judge_39 rfl (lv_at hl 2 rfl) ?_
  refine lv_if_lt (tgt := 57) hx hb d_M_judge_40 (by decide) (fun hc => ?_) (fun hc => ?_)
  · have hf := cd_t hc hf
    refine lv_bipush (v := 100) hx hb d_M_judge_57 (by decide) ?_
    refine lv_iload_n hx hb d_M_judge_59 rfl (lv_at hl 3 rfl) ?_
    refine lv_iadd hx hb d_M_judge_60 ?_
    refine g_nI hf (fun x18 hf => ?_)
    exact g_iret hx hb hr hlocks hR hS hf rfl d_M_judge_61
  have hf := cd_f hc hf
  refine lv_iload_n hx hb d_M_judge_43 rfl (lv_at hl 2 rfl) ?_
  refine lv_aload_n hx hb d_M_judge_44 rfl (lv_at hl 0 rfl) ?_
  have ⟨x19, h20, hf⟩ := rr_e hf
  refine g_getR hx hb hts hown hK hR fl_M_220 (fun _ => rfl) h11 h20 d_M_judge_45 ?_
  refine lv_iload_n hx hb d_M_judge_48 rfl (lv_at hl 1 rfl) ?_
  have ⟨h21, hf⟩ := gd_e hf
  have ⟨h22, hf⟩ := gd_e hf
  refine g_iald hx hb hK hR h21 h22 d_M_judge_49 ?_
  refine g_nI hf (fun x23 hf => ?_)
  refine lv_iload_n hx hb d_M_judge_50 rfl (lv_at hl 3 rfl) ?_
  refine lv_isub hx hb d_M_judge_51 ?_
  refine g_nI hf (fun x24 hf => ?_)
  refine lv_iconst (v := 1) hx hb d_M_judge_52 (by decide) ?_
  refine lv_isub hx hb d_M_judge_53 ?_
  refine g_nI hf (fun x25 hf => ?_)
  refine lv_icmp_le (tgt := 62) hx hb d_M_judge_54 (by decide) (fun hc => ?_) (fun hc => ?_)
  · have hf := cd_t hc hf
    refine lv_aload_n hx hb d_M_judge_62 rfl (lv_at hl 0 rfl) ?_
    have ⟨x26, h27, hf⟩ := rr_e hf
    refine g_getR hx hb hts hown hK hR fl_M_223 (fun _ => rfl) h11 h27 d_M_judge_63 ?_
    refine lv_bipush (v := 60) hx hb d_M_judge_66 (by decide) ?_
    refine lv_iload_n hx hb d_M_judge_68 rfl (lv_at hl 1 rfl) ?_
    refine lv_imul hx hb d_M_judge_69 ?_
    refine g_nI hf (fun x28 hf => ?_)
    refine lv_iload_n hx hb d_M_judge_70 rfl (lv_at hl 2 rfl) ?_
    refine lv_iadd hx hb d_M_judge_71 ?_
    refine g_nI hf (fun x29 hf => ?_)
    refine lv_iload_n hx hb d_M_judge_72 rfl (lv_at hl 3 rfl) ?_
    refine lv_iadd hx hb d_M_judge_73 ?_
    refine g_nI hf (fun x30 hf => ?_)
    have ⟨h31, hf⟩ := gd_e hf
    have ⟨h32, hf⟩ := gd_e hf
    refine g_lald hx hb hK hR h31 h32 d_M_judge_74 ?_
    refine g_nL hf (fun x33 hf => ?_)
    refine lv_aload_n hx hb d_M_judge_75 rfl (lv_at hl 0 rfl) ?_
    have ⟨x34, h35, hf⟩ := rr_e hf
    refine g_getR hx hb hts hown hK hR fl_M_32 (fun _ => rfl) h11 h35 d_M_judge_76 ?_
    refine lv_iload_n hx hb d_M_judge_79 rfl (lv_at hl 3 rfl) ?_
    have ⟨h36, hf⟩ := gd_e hf
    have ⟨h37, hf⟩ := gd_e hf
    refine g_iald hx hb hK hR h36 h37 d_M_judge_80 ?_
    refine g_nI hf (fun x38 hf => ?_)
    refine lv_i2l hx hb d_M_judge_81 rfl ?_
    refine g_nL hf (fun x39 hf => ?_)
    refine W.lcmp hx hb d_M_judge_82 ?_
    refine g_nI hf (fun x40 hf => ?_)
    refine lv_if_eq (tgt := 88) hx hb d_M_judge_83 (by decide) (fun hc => ?_) (fun hc => ?_)
    · have hf := cd_t hc hf
      refine g_iinc (lv' := fun x41 => [(3, .int x41), (0, .ref (B + a0)), (1, .int a1), (2, .int a2)]) hf hx hb d_M_judge_88 hl (k := 3) rfl (by decide) (by decide) (fun _ => rfl) (fun x41 ls hf hl => ?_)
      refine lv_goto (tgt := 24) hx hb d_M_judge_91 (by decide) ?_
      exact ih24 a0 a1 a2 x41 w _ _ _ hf (lv_sub hl [1, 2, 3, 0] rfl) hR hS
    have hf := cd_f hc hf
    refine lv_iload_n hx hb d_M_judge_86 rfl (lv_at hl 3 rfl) ?_
    exact g_iret hx hb hr hlocks hR hS hf rfl d_M_judge_87
  have hf := cd_f hc hf
  refine lv_bipush (v := 100) hx hb d_M_judge_57 (by decide) ?_
  refine lv_iload_n hx hb d_M_judge_59 rfl (lv_at hl 3 rfl) ?_
  refine lv_iadd hx hb d_M_judge_60 ?_
  refine g_nI hf (fun x42 hf => ?_)
  exact g_iret hx hb hr hlocks hR hS hf rfl d_M_judge_61
theorem c_M_judge_l24 {r : Int32} {wz : gW} (C : gC p s m args meth c "RidCoppersModel" b_M_judge 4 (some .int) D cA oc B) (a0 : Nat) (a1 : Int32) (a2 : Int32) (a3 : Int32) (w : gW) {ls : Array Slot} {H : Heap} {locs : List Loc} (hl : lv_has ls 4 [(0, .ref (B + a0)), (1, .int a1), (2, .int a2), (3, .int a3)]) (hf : f_M_judge_l24 N a0 a1 a2 a3 w = some (r, wz)) (hR : gRep D cA B w H) (hS : va_S (gA B) s.heap H locs) : W p l e ({ frames := 3, cells := 0, slots := 0, locals := 84 } : Room) s m args below meth c H locs 0 0 (MQ below (gQi D cA B r wz) args s 0 0 (gA B)) (F0 m 24 ls []) := by
  unfold f_M_judge_l24 at hf
  suffices hh : ∀ n : Nat, ∀ (a0 : Nat) (a1 : Int32) (a2 : Int32) (a3 : Int32) (w : gW) (ls : Array Slot) (H : Heap) (locs : List Loc), itr (fun rec (q : Nat × Int32 × Int32 × Int32 × gW) => f_M_judge_b24 N rec q.1 q.2.1 q.2.2.1 q.2.2.2.1 q.2.2.2.2) n (a0, a1, a2, a3, w) = some (r, wz) → lv_has ls 4 [(0, .ref (B + a0)), (1, .int a1), (2, .int a2), (3, .int a3)] → gRep D cA B w H → va_S (gA B) s.heap H locs → W p l e ({ frames := 3, cells := 0, slots := 0, locals := 84 } : Room) s m args below meth c H locs 0 0 (MQ below (gQi D cA B r wz) args s 0 0 (gA B)) (F0 m 24 ls []) from hh N a0 a1 a2 a3 w ls H locs hf hl hR hS
  intro n
  induction n with
  | zero => intro a0 a1 a2 a3 w ls H locs hf; cases hf
  | succ n ihn =>
    intro a0 a1 a2 a3 w ls H locs hf hl hR hS
    exact c_M_judge_b24 (N := N) ihn C a0 a1 a2 a3 w hl ((itr_s _ _ _).symm.trans hf) hR hS
set_option maxRecDepth 20000 in
theorem c_M_judge_b0 {r : Int32} {wz : gW} (C : gC p s m args meth c "RidCoppersModel" b_M_judge 4 (some .int) D cA oc B) (a0 : Nat) (a1 : Int32) (a2 : Int32) (w : gW) {ls : Array Slot} {H : Heap} {locs : List Loc} (hl : lv_has ls 4 [(0, .ref (B + a0)), (1, .int a1), (2, .int a2)]) (hf : f_M_judge_b0 N a0 a1 a2 w = some (r, wz)) (hR : gRep D cA B w H) (hS : va_S (gA B) s.heap H locs) : W p l e ({ frames := 3, cells := 0, slots := 0, locals := 84 } : Room) s m args below meth c H locs 0 0 (MQ below (gQi D cA B r wz) args s 0 0 (gA B)) (F0 m 0 ls []) := by
  obtain ⟨hx, hb, hml, hown, hts, hr, hlocks, hK, hBs⟩ := id C
  unfold f_M_judge_b0 at hf
  refine lv_aload_n hx hb d_M_judge_0 rfl (lv_at hl 0 rfl) ?_
  refine lv_iload_n hx hb d_M_judge_1 rfl (lv_at hl 1 rfl) ?_
  have ⟨h4, hf⟩ := gd_e hf
  have ⟨x1, w2, h3, hf⟩ := kl_e hf
  refine g_ki0 (g_rV (As := [.int a1]) (rest := []) hx hb hml hown hts hK hR hS (c_M_isTape l D cA oc B N a0 a1 w h3) I_M_isTape m_1491 mp_73 (gRecv hK hR (ci := 12) rfl h4) rfl rfl (Nat.le_of_ble_eq_true rfl) hl.1 ⟨Nat.le_of_ble_eq_true rfl, Nat.le_of_ble_eq_true rfl⟩ ⟨Nat.le_of_ble_eq_true rfl, Nat.le_of_ble_eq_true rfl⟩ d_M_judge_2) hS (fun H locs hR hS => ?_)
  refine lv_if_ne (tgt := 10) hx hb d_M_judge_5 (by decide) (fun hc => ?_) (fun hc => ?_)
  · have hf := cd_f hc hf
    refine lv_aload_n hx hb d_M_judge_10 rfl (lv_at hl 0 rfl) ?_
    have ⟨h5, hf⟩ := gd_e hf
    have ⟨x6, h7, hf⟩ := rr_e hf
    refine g_getR hx hb hts hown hK hR fl_M_217 (fun _ => rfl) h5 h7 d_M_judge_11 ?_
    refine lv_iload_n hx hb d_M_judge_14 rfl (lv_at hl 1 rfl) ?_
    have ⟨h8, hf⟩ := gd_e hf
    have ⟨h9, hf⟩ := gd_e hf
    refine g_iald hx hb hK hR h8 h9 d_M_judge_15 ?_
    refine g_nI hf (fun x10 hf => ?_)
    refine lv_if_le (tgt := 22) hx hb d_M_judge_16 (by decide) (fun hc => ?_) (fun hc => ?_)
    · have hf := cd_t hc hf
      refine lv_iconst (v := 0) hx hb d_M_judge_22 (by decide) ?_
      refine lv_istore_n (lv' := [(3, .int 0), (0, .ref (B + a0)), (1, .int a1), (2, .int a2)]) hx hb d_M_judge_23 rfl hl (by decide) rfl (fun ls hl => ?_)
      exact c_M_judge_l24 C a0 a1 a2 0 w2 (lv_sub hl [1, 2, 3, 0] rfl) hf hR hS
    have hf := cd_f hc hf
    refine lv_bipush (v := (-12)) hx hb d_M_judge_19 (by decide) ?_
    exact g_iret hx hb hr hlocks hR hS hf rfl d_M_judge_21
  have hf := cd_t hc hf
  refine lv_iconst (v := (-1)) hx hb d_M_judge_8 (by decide) ?_
  exact g_iret hx hb hr hlocks hR hS hf rfl d_M_judge_9
theorem c_M_judge (l : Launch) (D : va_G) (cA : Nat → ClassId) (oc : gO) (B N : Nat) (a0 : Nat) (a1 : Int32) (a2 : Int32) (w : gW) {wz : gW} {r : Int32} (hf : f_M_judge N a0 a1 a2 w = some (r, wz)) : Met l y_M_judge (Cond.code y_M_judge b_M_judge 4 (some .int) :: lw_good) ({ frames := 3, cells := 0, slots := 0, locals := 84 } : Room) (gPre D cA oc B [.ref (B + a0), .int a1, .int a2] w) (gQi D cA B r wz) 0 0 (gA B) := by
  refine Met.ofW (cc := b_M_judge) (maxL := 4) (ret := (some .int)) (by decide +kernel) rfl ?_
  intro p e s m args below meth c s₁ Bd hml hv
  obtain ⟨hargs, C, hR⟩ := gC.enter (l := l) rfl Bd hml hv
  subst hargs
  have hl := lv_entry ([.ref (B + a0), .int a1, .int a2]) (n := 4) (Nat.le_of_ble_eq_true rfl)
  rw [lg_entry_eq]
  generalize (lg_sl ([.ref (B + a0), .int a1, .int a2]) ++ List.replicate (4 - (lg_sl ([.ref (B + a0), .int a1, .int a2])).length) Slot.unset).toArray = ls at hl ⊢
  have hl : lv_has ls 4 [(0, .ref (B + a0)), (1, .int a1), (2, .int a2)] := hl
  exact c_M_judge_b0 C a0 a1 a2 w (lv_sub hl [0, 1, 2] rfl) hf hR va_S.rf
theorem d_M_image_0 : decode b_M_image 0 = .ok (.aload_n 0, 1) := by decide +kernel
theorem d_M_image_1 : decode b_M_image 1 = .ok (.iconst 1, 1) := by decide +kernel
theorem d_M_image_2 : decode b_M_image 2 = .ok (.putfield 159, 3) := by decide +kernel
theorem d_M_image_5 : decode b_M_image 5 = .ok (.aload_n 0, 1) := by decide +kernel
theorem d_M_image_6 : decode b_M_image 6 = .ok (.aload_n 0, 1) := by decide +kernel
theorem d_M_image_7 : decode b_M_image 7 = .ok (.getfield 38, 3) := by decide +kernel
theorem d_M_image_10 : decode b_M_image 10 = .ok (.putfield 163, 3) := by decide +kernel
theorem d_M_image_13 : decode b_M_image 13 = .ok (.aload_n 0, 1) := by decide +kernel
theorem d_M_image_14 : decode b_M_image 14 = .ok (.aload_n 0, 1) := by decide +kernel
theorem d_M_image_15 : decode b_M_image 15 = .ok (.getfield 7, 3) := by decide +kernel
theorem d_M_image_18 : decode b_M_image 18 = .ok (.putfield 166, 3) := by decide +kernel
theorem d_M_image_21 : decode b_M_image 21 = .ok (.aload_n 0, 1) := by decide +kernel
theorem d_M_image_22 : decode b_M_image 22 = .ok (.aload_n 0, 1) := by decide +kernel
theorem d_M_image_23 : decode b_M_image 23 = .ok (.getfield 135, 3) := by decide +kernel
theorem d_M_image_26 : decode b_M_image 26 = .ok (.putfield 169, 3) := by decide +kernel
theorem d_M_image_29 : decode b_M_image 29 = .ok (.aload_n 0, 1) := by decide +kernel
theorem d_M_image_30 : decode b_M_image 30 = .ok (.aload_n 0, 1) := by decide +kernel
theorem d_M_image_31 : decode b_M_image 31 = .ok (.getfield 141, 3) := by decide +kernel
theorem d_M_image_34 : decode b_M_image 34 = .ok (.putfield 172, 3) := by decide +kernel
theorem d_M_image_37 : decode b_M_image 37 = .ok (.aload_n 0, 1) := by decide +kernel
theorem d_M_image_38 : decode b_M_image 38 = .ok (.aload_n 0, 1) := by decide +kernel
theorem d_M_image_39 : decode b_M_image 39 = .ok (.getfield 150, 3) := by decide +kernel
theorem d_M_image_42 : decode b_M_image 42 = .ok (.putfield 175, 3) := by decide +kernel
theorem d_M_image_45 : decode b_M_image 45 = .ok (.iconst 0, 1) := by decide +kernel
theorem d_M_image_46 : decode b_M_image 46 = .ok (.istore_n 1, 1) := by decide +kernel
theorem d_M_image_47 : decode b_M_image 47 = .ok (.iload_n 1, 1) := by decide +kernel
theorem d_M_image_48 : decode b_M_image 48 = .ok (.iconst 4, 1) := by decide +kernel
theorem d_M_image_49 : decode b_M_image 49 = .ok (.if_icmp .ge 81, 3) := by decide +kernel
theorem d_M_image_52 : decode b_M_image 52 = .ok (.aload_n 0, 1) := by decide +kernel
theorem d_M_image_53 : decode b_M_image 53 = .ok (.getfield 178, 3) := by decide +kernel
theorem d_M_image_56 : decode b_M_image 56 = .ok (.iload_n 1, 1) := by decide +kernel
theorem d_M_image_57 : decode b_M_image 57 = .ok (.aload_n 0, 1) := by decide +kernel
theorem d_M_image_58 : decode b_M_image 58 = .ok (.getfield 17, 3) := by decide +kernel
theorem d_M_image_61 : decode b_M_image 61 = .ok (.iload_n 1, 1) := by decide +kernel
theorem d_M_image_62 : decode b_M_image 62 = .ok (.iaload, 1) := by decide +kernel
theorem d_M_image_63 : decode b_M_image 63 = .ok (.iastore, 1) := by decide +kernel
theorem d_M_image_64 : decode b_M_image 64 = .ok (.aload_n 0, 1) := by decide +kernel
theorem d_M_image_65 : decode b_M_image 65 = .ok (.getfield 181, 3) := by decide +kernel
theorem d_M_image_68 : decode b_M_image 68 = .ok (.iload_n 1, 1) := by decide +kernel
theorem d_M_image_69 : decode b_M_image 69 = .ok (.aload_n 0, 1) := by decide +kernel
theorem d_M_image_70 : decode b_M_image 70 = .ok (.getfield 20, 3) := by decide +kernel
theorem d_M_image_73 : decode b_M_image 73 = .ok (.iload_n 1, 1) := by decide +kernel
theorem d_M_image_74 : decode b_M_image 74 = .ok (.iaload, 1) := by decide +kernel
theorem d_M_image_75 : decode b_M_image 75 = .ok (.iastore, 1) := by decide +kernel
theorem d_M_image_76 : decode b_M_image 76 = .ok (.aload_n 0, 1) := by decide +kernel
theorem d_M_image_77 : decode b_M_image 77 = .ok (.getfield 184, 3) := by decide +kernel
theorem d_M_image_80 : decode b_M_image 80 = .ok (.iload_n 1, 1) := by decide +kernel
theorem d_M_image_81 : decode b_M_image 81 = .ok (.aload_n 0, 1) := by decide +kernel
theorem d_M_image_82 : decode b_M_image 82 = .ok (.getfield 23, 3) := by decide +kernel
theorem d_M_image_85 : decode b_M_image 85 = .ok (.iload_n 1, 1) := by decide +kernel
theorem d_M_image_86 : decode b_M_image 86 = .ok (.iaload, 1) := by decide +kernel
theorem d_M_image_87 : decode b_M_image 87 = .ok (.iastore, 1) := by decide +kernel
theorem d_M_image_88 : decode b_M_image 88 = .ok (.aload_n 0, 1) := by decide +kernel
theorem d_M_image_89 : decode b_M_image 89 = .ok (.getfield 196, 3) := by decide +kernel
theorem d_M_image_92 : decode b_M_image 92 = .ok (.iload_n 1, 1) := by decide +kernel
theorem d_M_image_93 : decode b_M_image 93 = .ok (.aload_n 0, 1) := by decide +kernel
theorem d_M_image_94 : decode b_M_image 94 = .ok (.getfield 138, 3) := by decide +kernel
theorem d_M_image_97 : decode b_M_image 97 = .ok (.iload_n 1, 1) := by decide +kernel
theorem d_M_image_98 : decode b_M_image 98 = .ok (.iaload, 1) := by decide +kernel
theorem d_M_image_99 : decode b_M_image 99 = .ok (.iastore, 1) := by decide +kernel
theorem d_M_image_100 : decode b_M_image 100 = .ok (.aload_n 0, 1) := by decide +kernel
theorem d_M_image_101 : decode b_M_image 101 = .ok (.getfield 199, 3) := by decide +kernel
theorem d_M_image_104 : decode b_M_image 104 = .ok (.iload_n 1, 1) := by decide +kernel
theorem d_M_image_105 : decode b_M_image 105 = .ok (.aload_n 0, 1) := by decide +kernel
theorem d_M_image_106 : decode b_M_image 106 = .ok (.getfield 144, 3) := by decide +kernel
theorem d_M_image_109 : decode b_M_image 109 = .ok (.iload_n 1, 1) := by decide +kernel
theorem d_M_image_110 : decode b_M_image 110 = .ok (.iaload, 1) := by decide +kernel
theorem d_M_image_111 : decode b_M_image 111 = .ok (.iastore, 1) := by decide +kernel
theorem d_M_image_112 : decode b_M_image 112 = .ok (.aload_n 0, 1) := by decide +kernel
theorem d_M_image_113 : decode b_M_image 113 = .ok (.getfield 202, 3) := by decide +kernel
theorem d_M_image_116 : decode b_M_image 116 = .ok (.iload_n 1, 1) := by decide +kernel
theorem d_M_image_117 : decode b_M_image 117 = .ok (.aload_n 0, 1) := by decide +kernel
theorem d_M_image_118 : decode b_M_image 118 = .ok (.getfield 147, 3) := by decide +kernel
theorem d_M_image_121 : decode b_M_image 121 = .ok (.iload_n 1, 1) := by decide +kernel
theorem d_M_image_122 : decode b_M_image 122 = .ok (.iaload, 1) := by decide +kernel
theorem d_M_image_123 : decode b_M_image 123 = .ok (.iastore, 1) := by decide +kernel
theorem d_M_image_124 : decode b_M_image 124 = .ok (.iinc 1 1, 3) := by decide +kernel
theorem d_M_image_127 : decode b_M_image 127 = .ok (.goto (-80), 3) := by decide +kernel
theorem d_M_image_130 : decode b_M_image 130 = .ok (.iconst 0, 1) := by decide +kernel
theorem d_M_image_131 : decode b_M_image 131 = .ok (.istore_n 1, 1) := by decide +kernel
theorem d_M_image_132 : decode b_M_image 132 = .ok (.iload_n 1, 1) := by decide +kernel
theorem d_M_image_133 : decode b_M_image 133 = .ok (.bipush 16, 2) := by decide +kernel
theorem d_M_image_135 : decode b_M_image 135 = .ok (.if_icmp .ge 21, 3) := by decide +kernel
theorem d_M_image_138 : decode b_M_image 138 = .ok (.aload_n 0, 1) := by decide +kernel
theorem d_M_image_139 : decode b_M_image 139 = .ok (.getfield 187, 3) := by decide +kernel
theorem d_M_image_142 : decode b_M_image 142 = .ok (.iload_n 1, 1) := by decide +kernel
theorem d_M_image_143 : decode b_M_image 143 = .ok (.aload_n 0, 1) := by decide +kernel
theorem d_M_image_144 : decode b_M_image 144 = .ok (.getfield 26, 3) := by decide +kernel
theorem d_M_image_147 : decode b_M_image 147 = .ok (.iload_n 1, 1) := by decide +kernel
theorem d_M_image_148 : decode b_M_image 148 = .ok (.iaload, 1) := by decide +kernel
theorem d_M_image_149 : decode b_M_image 149 = .ok (.iastore, 1) := by decide +kernel
theorem d_M_image_150 : decode b_M_image 150 = .ok (.iinc 1 1, 3) := by decide +kernel
theorem d_M_image_153 : decode b_M_image 153 = .ok (.goto (-21), 3) := by decide +kernel
theorem d_M_image_156 : decode b_M_image 156 = .ok (.iconst 0, 1) := by decide +kernel
theorem d_M_image_157 : decode b_M_image 157 = .ok (.istore_n 1, 1) := by decide +kernel
theorem d_M_image_158 : decode b_M_image 158 = .ok (.iload_n 1, 1) := by decide +kernel
theorem d_M_image_159 : decode b_M_image 159 = .ok (.bipush 24, 2) := by decide +kernel
theorem d_M_image_161 : decode b_M_image 161 = .ok (.if_icmp .ge 21, 3) := by decide +kernel
theorem d_M_image_164 : decode b_M_image 164 = .ok (.aload_n 0, 1) := by decide +kernel
theorem d_M_image_165 : decode b_M_image 165 = .ok (.getfield 190, 3) := by decide +kernel
theorem d_M_image_168 : decode b_M_image 168 = .ok (.iload_n 1, 1) := by decide +kernel
theorem d_M_image_169 : decode b_M_image 169 = .ok (.aload_n 0, 1) := by decide +kernel
theorem d_M_image_170 : decode b_M_image 170 = .ok (.getfield 29, 3) := by decide +kernel
theorem d_M_image_173 : decode b_M_image 173 = .ok (.iload_n 1, 1) := by decide +kernel
theorem d_M_image_174 : decode b_M_image 174 = .ok (.iaload, 1) := by decide +kernel
theorem d_M_image_175 : decode b_M_image 175 = .ok (.iastore, 1) := by decide +kernel
theorem d_M_image_176 : decode b_M_image 176 = .ok (.iinc 1 1, 3) := by decide +kernel
theorem d_M_image_179 : decode b_M_image 179 = .ok (.goto (-21), 3) := by decide +kernel
theorem d_M_image_182 : decode b_M_image 182 = .ok (.iconst 0, 1) := by decide +kernel
theorem d_M_image_183 : decode b_M_image 183 = .ok (.istore_n 1, 1) := by decide +kernel
theorem d_M_image_184 : decode b_M_image 184 = .ok (.iload_n 1, 1) := by decide +kernel
theorem d_M_image_185 : decode b_M_image 185 = .ok (.bipush 6, 2) := by decide +kernel
theorem d_M_image_187 : decode b_M_image 187 = .ok (.if_icmp .ge 21, 3) := by decide +kernel
theorem d_M_image_190 : decode b_M_image 190 = .ok (.aload_n 0, 1) := by decide +kernel
theorem d_M_image_191 : decode b_M_image 191 = .ok (.getfield 193, 3) := by decide +kernel
theorem d_M_image_194 : decode b_M_image 194 = .ok (.iload_n 1, 1) := by decide +kernel
theorem d_M_image_195 : decode b_M_image 195 = .ok (.aload_n 0, 1) := by decide +kernel
theorem d_M_image_196 : decode b_M_image 196 = .ok (.getfield 32, 3) := by decide +kernel
theorem d_M_image_199 : decode b_M_image 199 = .ok (.iload_n 1, 1) := by decide +kernel
theorem d_M_image_200 : decode b_M_image 200 = .ok (.iaload, 1) := by decide +kernel
theorem d_M_image_201 : decode b_M_image 201 = .ok (.iastore, 1) := by decide +kernel
theorem d_M_image_202 : decode b_M_image 202 = .ok (.iinc 1 1, 3) := by decide +kernel
theorem d_M_image_205 : decode b_M_image 205 = .ok (.goto (-21), 3) := by decide +kernel
theorem d_M_image_208 : decode b_M_image 208 = .ok (.iconst 0, 1) := by decide +kernel
theorem d_M_image_209 : decode b_M_image 209 = .ok (.istore_n 1, 1) := by decide +kernel
theorem d_M_image_210 : decode b_M_image 210 = .ok (.iload_n 1, 1) := by decide +kernel
theorem d_M_image_211 : decode b_M_image 211 = .ok (.bipush 8, 2) := by decide +kernel
theorem d_M_image_213 : decode b_M_image 213 = .ok (.if_icmp .ge 33, 3) := by decide +kernel
theorem d_M_image_216 : decode b_M_image 216 = .ok (.aload_n 0, 1) := by decide +kernel
theorem d_M_image_217 : decode b_M_image 217 = .ok (.getfield 205, 3) := by decide +kernel
theorem d_M_image_220 : decode b_M_image 220 = .ok (.iload_n 1, 1) := by decide +kernel
theorem d_M_image_221 : decode b_M_image 221 = .ok (.aload_n 0, 1) := by decide +kernel
theorem d_M_image_222 : decode b_M_image 222 = .ok (.getfield 153, 3) := by decide +kernel
theorem d_M_image_225 : decode b_M_image 225 = .ok (.iload_n 1, 1) := by decide +kernel
theorem d_M_image_226 : decode b_M_image 226 = .ok (.iaload, 1) := by decide +kernel
theorem d_M_image_227 : decode b_M_image 227 = .ok (.iastore, 1) := by decide +kernel
theorem d_M_image_228 : decode b_M_image 228 = .ok (.aload_n 0, 1) := by decide +kernel
theorem d_M_image_229 : decode b_M_image 229 = .ok (.getfield 208, 3) := by decide +kernel
theorem d_M_image_232 : decode b_M_image 232 = .ok (.iload_n 1, 1) := by decide +kernel
theorem d_M_image_233 : decode b_M_image 233 = .ok (.aload_n 0, 1) := by decide +kernel
theorem d_M_image_234 : decode b_M_image 234 = .ok (.getfield 156, 3) := by decide +kernel
theorem d_M_image_237 : decode b_M_image 237 = .ok (.iload_n 1, 1) := by decide +kernel
theorem d_M_image_238 : decode b_M_image 238 = .ok (.iaload, 1) := by decide +kernel
theorem d_M_image_239 : decode b_M_image 239 = .ok (.iastore, 1) := by decide +kernel
theorem d_M_image_240 : decode b_M_image 240 = .ok (.iinc 1 1, 3) := by decide +kernel
theorem d_M_image_243 : decode b_M_image 243 = .ok (.goto (-33), 3) := by decide +kernel
theorem d_M_image_246 : decode b_M_image 246 = .ok (.aload_n 0, 1) := by decide +kernel
theorem d_M_image_247 : decode b_M_image 247 = .ok (.getfield 7, 3) := by decide +kernel
theorem d_M_image_250 : decode b_M_image 250 = .ok (.ireturn, 1) := by decide +kernel
set_option maxRecDepth 20000 in
theorem c_M_image_b210 {r : Int32} {wz : gW} {rec210 : Nat × Int32 × gW → Option (Int32 × gW)} (ih210 : ∀ (a0 : Nat) (a1 : Int32) (w : gW) (ls : Array Slot) (H : Heap) (locs : List Loc), rec210 (a0, a1, w) = some (r, wz) → lv_has ls 2 [(0, .ref (B + a0)), (1, .int a1)] → gRep D cA B w H → va_S (gA B) s.heap H locs → W p l e ({ frames := 1, cells := 0, slots := 0, locals := 40 } : Room) s m args below meth c H locs 0 0 (MQ below (gQi D cA B r wz) args s 0 0 (gA B)) (F0 m 210 ls [])) (C : gC p s m args meth c "RidCoppersModel" b_M_image 2 (some .int) D cA oc B) (a0 : Nat) (a1 : Int32) (w : gW) {ls : Array Slot} {H : Heap} {locs : List Loc} (hl : lv_has ls 2 [(0, .ref (B + a0)), (1, .int a1)]) (hf : f_M_image_b210 N rec210 a0 a1 w = some (r, wz)) (hR : gRep D cA B w H) (hS : va_S (gA B) s.heap H locs) : W p l e ({ frames := 1, cells := 0, slots := 0, locals := 40 } : Room) s m args below meth c H locs 0 0 (MQ below (gQi D cA B r wz) args s 0 0 (gA B)) (F0 m 210 ls []) := by
  obtain ⟨hx, hb, hml, hown, hts, hr, hlocks, hK, hBs⟩ := id C
  unfold f_M_image_b210 at hf
  refine lv_iload_n hx hb d_M_image_210 rfl (lv_at hl 1 rfl) ?_
  refine lv_bipush (v := 8) hx hb d_M_image_211 (by decide) ?_
  refine lv_icmp_ge (tgt := 246) hx hb d_M_image_213 (by decide) (fun hc => ?_) (fun hc => ?_)
  · have hf := cd_t hc hf
    refine lv_aload_n hx hb d_M_image_246 rfl (lv_at hl 0 rfl) ?_
    have ⟨h18, hf⟩ := gd_e hf
    refine g_getI hx hb hts hown hK hR fl_M_7 (fun _ => rfl) h18 d_M_image_247 ?_
    refine g_nI hf (fun x19 hf => ?_)
    exact g_iret hx hb hr hlocks hR hS hf rfl d_M_image_250
  have hf := cd_f hc hf
  refine lv_aload_n hx hb d_M_image_216 rfl (lv_at hl 0 rfl) ?_
  have ⟨h20, hf⟩ := gd_e hf
  have ⟨x21, h22, hf⟩ := rr_e hf
  refine g_getR hx hb hts hown hK hR fl_M_205 (fun _ => rfl) h20 h22 d_M_image_217 ?_
  refine lv_iload_n hx hb d_M_image_220 rfl (lv_at hl 1 rfl) ?_
  refine lv_aload_n hx hb d_M_image_221 rfl (lv_at hl 0 rfl) ?_
  have ⟨x23, h24, hf⟩ := rr_e hf
  refine g_getR hx hb hts hown hK hR fl_M_153 (fun _ => rfl) h20 h24 d_M_image_222 ?_
  refine lv_iload_n hx hb d_M_image_225 rfl (lv_at hl 1 rfl) ?_
  have ⟨h25, hf⟩ := gd_e hf
  have ⟨h26, hf⟩ := gd_e hf
  refine g_iald hx hb hK hR h25 h26 d_M_image_226 ?_
  refine g_nI hf (fun x27 hf => ?_)
  have ⟨h28, hf⟩ := gd_e hf
  have ⟨h29, hf⟩ := gd_e hf
  refine g_iast hx hb hK hR hS h28 h29 d_M_image_227 (fun H locs hR hS => ?_)
  refine g_nW hf hR (fun w30 hf hR => ?_)
  refine lv_aload_n hx hb d_M_image_228 rfl (lv_at hl 0 rfl) ?_
  have ⟨h31, hf⟩ := gd_e hf
  have ⟨x32, h33, hf⟩ := rr_e hf
  refine g_getR hx hb hts hown hK hR fl_M_208 (fun _ => rfl) h31 h33 d_M_image_229 ?_
  refine lv_iload_n hx hb d_M_image_232 rfl (lv_at hl 1 rfl) ?_
  refine lv_aload_n hx hb d_M_image_233 rfl (lv_at hl 0 rfl) ?_
  have ⟨x34, h35, hf⟩ := rr_e hf
  refine g_getR hx hb hts hown hK hR fl_M_156 (fun _ => rfl) h31 h35 d_M_image_234 ?_
  refine lv_iload_n hx hb d_M_image_237 rfl (lv_at hl 1 rfl) ?_
  have ⟨h36, hf⟩ := gd_e hf
  have ⟨h37, hf⟩ := gd_e hf
  refine g_iald hx hb hK hR h36 h37 d_M_image_238 ?_
  refine g_nI hf (fun x38 hf => ?_)
  have ⟨h39, hf⟩ := gd_e hf
  have ⟨h40, hf⟩ := gd_e hf
  refine g_iast hx hb hK hR hS h39 h40 d_M_image_239 (fun H locs hR hS => ?_)
  refine g_nW hf hR (fun w41 hf hR => ?_)
  refine g_iinc (lv' := fun x42 => [(1, .int x42), (0, .ref (B + a0))]) hf hx hb d_M_image_240 hl (k := 1) rfl (by decide) (by decide) (fun _ => rfl) (fun x42 ls hf hl => ?_)
  refine lv_goto (tgt := 210) hx hb d_M_image_243 (by decide) ?_
  exact ih210 a0 x42 w41 _ _ _ hf (lv_sub hl [1, 0] rfl) hR hS
theorem c_M_image_l210 {r : Int32} {wz : gW} (C : gC p s m args meth c "RidCoppersModel" b_M_image 2 (some .int) D cA oc B) (a0 : Nat) (a1 : Int32) (w : gW) {ls : Array Slot} {H : Heap} {locs : List Loc} (hl : lv_has ls 2 [(0, .ref (B + a0)), (1, .int a1)]) (hf : f_M_image_l210 N a0 a1 w = some (r, wz)) (hR : gRep D cA B w H) (hS : va_S (gA B) s.heap H locs) : W p l e ({ frames := 1, cells := 0, slots := 0, locals := 40 } : Room) s m args below meth c H locs 0 0 (MQ below (gQi D cA B r wz) args s 0 0 (gA B)) (F0 m 210 ls []) := by
  unfold f_M_image_l210 at hf
  suffices hh : ∀ n : Nat, ∀ (a0 : Nat) (a1 : Int32) (w : gW) (ls : Array Slot) (H : Heap) (locs : List Loc), itr (fun rec (q : Nat × Int32 × gW) => f_M_image_b210 N rec q.1 q.2.1 q.2.2) n (a0, a1, w) = some (r, wz) → lv_has ls 2 [(0, .ref (B + a0)), (1, .int a1)] → gRep D cA B w H → va_S (gA B) s.heap H locs → W p l e ({ frames := 1, cells := 0, slots := 0, locals := 40 } : Room) s m args below meth c H locs 0 0 (MQ below (gQi D cA B r wz) args s 0 0 (gA B)) (F0 m 210 ls []) from hh N a0 a1 w ls H locs hf hl hR hS
  intro n
  induction n with
  | zero => intro a0 a1 w ls H locs hf; cases hf
  | succ n ihn =>
    intro a0 a1 w ls H locs hf hl hR hS
    exact c_M_image_b210 (N := N) ihn C a0 a1 w hl ((itr_s _ _ _).symm.trans hf) hR hS
set_option maxRecDepth 20000 in
theorem c_M_image_b184 {r : Int32} {wz : gW} {rec184 : Nat × Int32 × gW → Option (Int32 × gW)} (ih184 : ∀ (a0 : Nat) (a1 : Int32) (w : gW) (ls : Array Slot) (H : Heap) (locs : List Loc), rec184 (a0, a1, w) = some (r, wz) → lv_has ls 2 [(0, .ref (B + a0)), (1, .int a1)] → gRep D cA B w H → va_S (gA B) s.heap H locs → W p l e ({ frames := 1, cells := 0, slots := 0, locals := 40 } : Room) s m args below meth c H locs 0 0 (MQ below (gQi D cA B r wz) args s 0 0 (gA B)) (F0 m 184 ls [])) (C : gC p s m args meth c "RidCoppersModel" b_M_image 2 (some .int) D cA oc B) (a0 : Nat) (a1 : Int32) (w : gW) {ls : Array Slot} {H : Heap} {locs : List Loc} (hl : lv_has ls 2 [(0, .ref (B + a0)), (1, .int a1)]) (hf : f_M_image_b184 N rec184 a0 a1 w = some (r, wz)) (hR : gRep D cA B w H) (hS : va_S (gA B) s.heap H locs) : W p l e ({ frames := 1, cells := 0, slots := 0, locals := 40 } : Room) s m args below meth c H locs 0 0 (MQ below (gQi D cA B r wz) args s 0 0 (gA B)) (F0 m 184 ls []) := by
  obtain ⟨hx, hb, hml, hown, hts, hr, hlocks, hK, hBs⟩ := id C
  unfold f_M_image_b184 at hf
  refine lv_iload_n hx hb d_M_image_184 rfl (lv_at hl 1 rfl) ?_
  refine lv_bipush (v := 6) hx hb d_M_image_185 (by decide) ?_
  refine lv_icmp_ge (tgt := 208) hx hb d_M_image_187 (by decide) (fun hc => ?_) (fun hc => ?_)
  · have hf := cd_t hc hf
    refine lv_iconst (v := 0) hx hb d_M_image_208 (by decide) ?_
    refine lv_istore_n (lv' := [(1, .int 0), (0, .ref (B + a0))]) hx hb d_M_image_209 rfl hl (by decide) rfl (fun ls hl => ?_)
    exact c_M_image_l210 C a0 0 w (lv_sub hl [1, 0] rfl) hf hR hS
  have hf := cd_f hc hf
  refine lv_aload_n hx hb d_M_image_190 rfl (lv_at hl 0 rfl) ?_
  have ⟨h43, hf⟩ := gd_e hf
  have ⟨x44, h45, hf⟩ := rr_e hf
  refine g_getR hx hb hts hown hK hR fl_M_193 (fun _ => rfl) h43 h45 d_M_image_191 ?_
  refine lv_iload_n hx hb d_M_image_194 rfl (lv_at hl 1 rfl) ?_
  refine lv_aload_n hx hb d_M_image_195 rfl (lv_at hl 0 rfl) ?_
  have ⟨x46, h47, hf⟩ := rr_e hf
  refine g_getR hx hb hts hown hK hR fl_M_32 (fun _ => rfl) h43 h47 d_M_image_196 ?_
  refine lv_iload_n hx hb d_M_image_199 rfl (lv_at hl 1 rfl) ?_
  have ⟨h48, hf⟩ := gd_e hf
  have ⟨h49, hf⟩ := gd_e hf
  refine g_iald hx hb hK hR h48 h49 d_M_image_200 ?_
  refine g_nI hf (fun x50 hf => ?_)
  have ⟨h51, hf⟩ := gd_e hf
  have ⟨h52, hf⟩ := gd_e hf
  refine g_iast hx hb hK hR hS h51 h52 d_M_image_201 (fun H locs hR hS => ?_)
  refine g_nW hf hR (fun w53 hf hR => ?_)
  refine g_iinc (lv' := fun x54 => [(1, .int x54), (0, .ref (B + a0))]) hf hx hb d_M_image_202 hl (k := 1) rfl (by decide) (by decide) (fun _ => rfl) (fun x54 ls hf hl => ?_)
  refine lv_goto (tgt := 184) hx hb d_M_image_205 (by decide) ?_
  exact ih184 a0 x54 w53 _ _ _ hf (lv_sub hl [1, 0] rfl) hR hS
theorem c_M_image_l184 {r : Int32} {wz : gW} (C : gC p s m args meth c "RidCoppersModel" b_M_image 2 (some .int) D cA oc B) (a0 : Nat) (a1 : Int32) (w : gW) {ls : Array Slot} {H : Heap} {locs : List Loc} (hl : lv_has ls 2 [(0, .ref (B + a0)), (1, .int a1)]) (hf : f_M_image_l184 N a0 a1 w = some (r, wz)) (hR : gRep D cA B w H) (hS : va_S (gA B) s.heap H locs) : W p l e ({ frames := 1, cells := 0, slots := 0, locals := 40 } : Room) s m args below meth c H locs 0 0 (MQ below (gQi D cA B r wz) args s 0 0 (gA B)) (F0 m 184 ls []) := by
  unfold f_M_image_l184 at hf
  suffices hh : ∀ n : Nat, ∀ (a0 : Nat) (a1 : Int32) (w : gW) (ls : Array Slot) (H : Heap) (locs : List Loc), itr (fun rec (q : Nat × Int32 × gW) => f_M_image_b184 N rec q.1 q.2.1 q.2.2) n (a0, a1, w) = some (r, wz) → lv_has ls 2 [(0, .ref (B + a0)), (1, .int a1)] → gRep D cA B w H → va_S (gA B) s.heap H locs → W p l e ({ frames := 1, cells := 0, slots := 0, locals := 40 } : Room) s m args below meth c H locs 0 0 (MQ below (gQi D cA B r wz) args s 0 0 (gA B)) (F0 m 184 ls []) from hh N a0 a1 w ls H locs hf hl hR hS
  intro n
  induction n with
  | zero => intro a0 a1 w ls H locs hf; cases hf
  | succ n ihn =>
    intro a0 a1 w ls H locs hf hl hR hS
    exact c_M_image_b184 (N := N) ihn C a0 a1 w hl ((itr_s _ _ _).symm.trans hf) hR hS
set_option maxRecDepth 20000 in
theorem c_M_image_b158 {r : Int32} {wz : gW} {rec158 : Nat × Int32 × gW → Option (Int32 × gW)} (ih158 : ∀ (a0 : Nat) (a1 : Int32) (w : gW) (ls : Array Slot) (H : Heap) (locs : List Loc), rec158 (a0, a1, w) = some (r, wz) → lv_has ls 2 [(0, .ref (B + a0)), (1, .int a1)] → gRep D cA B w H → va_S (gA B) s.heap H locs → W p l e ({ frames := 1, cells := 0, slots := 0, locals := 40 } : Room) s m args below meth c H locs 0 0 (MQ below (gQi D cA B r wz) args s 0 0 (gA B)) (F0 m 158 ls [])) (C : gC p s m args meth c "RidCoppersModel" b_M_image 2 (some .int) D cA oc B) (a0 : Nat) (a1 : Int32) (w : gW) {ls : Array Slot} {H : Heap} {locs : List Loc} (hl : lv_has ls 2 [(0, .ref (B + a0)), (1, .int a1)]) (hf : f_M_image_b158 N rec158 a0 a1 w = some (r, wz)) (hR : gRep D cA B w H) (hS : va_S (gA B) s.heap H locs) : W p l e ({ frames := 1, cells := 0, slots := 0, locals := 40 } : Room) s m args below meth c H locs 0 0 (MQ below (gQi D cA B r wz) args s 0 0 (gA B)) (F0 m 158 ls []) := by
  obtain ⟨hx, hb, hml, hown, hts, hr, hlocks, hK, hBs⟩ := id C
  unfold f_M_image_b158 at hf
  refine lv_iload_n hx hb d_M_image_158 rfl (lv_at hl 1 rfl) ?_
  refine lv_bipush (v := 24) hx hb d_M_image_159 (by decide) ?_
  refine lv_icmp_ge (tgt := 182) hx hb d_M_image_161 (by decide) (fun hc => ?_) (fun hc => ?_)
  · have hf := cd_t hc hf
    refine lv_iconst (v := 0) hx hb d_M_image_182 (by decide) ?_
    refine lv_istore_n (lv' := [(1, .int 0), (0, .ref (B + a0))]) hx hb d_M_image_183 rfl hl (by decide) rfl (fun ls hl => ?_)
    exact c_M_image_l184 C a0 0 w (lv_sub hl [1, 0] rfl) hf hR hS
  have hf := cd_f hc hf
  refine lv_aload_n hx hb d_M_image_164 rfl (lv_at hl 0 rfl) ?_
  have ⟨h55, hf⟩ := gd_e hf
  have ⟨x56, h57, hf⟩ := rr_e hf
  refine g_getR hx hb hts hown hK hR fl_M_190 (fun _ => rfl) h55 h57 d_M_image_165 ?_
  refine lv_iload_n hx hb d_M_image_168 rfl (lv_at hl 1 rfl) ?_
  refine lv_aload_n hx hb d_M_image_169 rfl (lv_at hl 0 rfl) ?_
  have ⟨x58, h59, hf⟩ := rr_e hf
  refine g_getR hx hb hts hown hK hR fl_M_29 (fun _ => rfl) h55 h59 d_M_image_170 ?_
  refine lv_iload_n hx hb d_M_image_173 rfl (lv_at hl 1 rfl) ?_
  have ⟨h60, hf⟩ := gd_e hf
  have ⟨h61, hf⟩ := gd_e hf
  refine g_iald hx hb hK hR h60 h61 d_M_image_174 ?_
  refine g_nI hf (fun x62 hf => ?_)
  have ⟨h63, hf⟩ := gd_e hf
  have ⟨h64, hf⟩ := gd_e hf
  refine g_iast hx hb hK hR hS h63 h64 d_M_image_175 (fun H locs hR hS => ?_)
  refine g_nW hf hR (fun w65 hf hR => ?_)
  refine g_iinc (lv' := fun x66 => [(1, .int x66), (0, .ref (B + a0))]) hf hx hb d_M_image_176 hl (k := 1) rfl (by decide) (by decide) (fun _ => rfl) (fun x66 ls hf hl => ?_)
  refine lv_goto (tgt := 158) hx hb d_M_image_179 (by decide) ?_
  exact ih158 a0 x66 w65 _ _ _ hf (lv_sub hl [1, 0] rfl) hR hS
theorem c_M_image_l158 {r : Int32} {wz : gW} (C : gC p s m args meth c "RidCoppersModel" b_M_image 2 (some .int) D cA oc B) (a0 : Nat) (a1 : Int32) (w : gW) {ls : Array Slot} {H : Heap} {locs : List Loc} (hl : lv_has ls 2 [(0, .ref (B + a0)), (1, .int a1)]) (hf : f_M_image_l158 N a0 a1 w = some (r, wz)) (hR : gRep D cA B w H) (hS : va_S (gA B) s.heap H locs) : W p l e ({ frames := 1, cells := 0, slots := 0, locals := 40 } : Room) s m args below meth c H locs 0 0 (MQ below (gQi D cA B r wz) args s 0 0 (gA B)) (F0 m 158 ls []) := by
  unfold f_M_image_l158 at hf
  suffices hh : ∀ n : Nat, ∀ (a0 : Nat) (a1 : Int32) (w : gW) (ls : Array Slot) (H : Heap) (locs : List Loc), itr (fun rec (q : Nat × Int32 × gW) => f_M_image_b158 N rec q.1 q.2.1 q.2.2) n (a0, a1, w) = some (r, wz) → lv_has ls 2 [(0, .ref (B + a0)), (1, .int a1)] → gRep D cA B w H → va_S (gA B) s.heap H locs → W p l e ({ frames := 1, cells := 0, slots := 0, locals := 40 } : Room) s m args below meth c H locs 0 0 (MQ below (gQi D cA B r wz) args s 0 0 (gA B)) (F0 m 158 ls []) from hh N a0 a1 w ls H locs hf hl hR hS
  intro n
  induction n with
  | zero => intro a0 a1 w ls H locs hf; cases hf
  | succ n ihn =>
    intro a0 a1 w ls H locs hf hl hR hS
    exact c_M_image_b158 (N := N) ihn C a0 a1 w hl ((itr_s _ _ _).symm.trans hf) hR hS
set_option maxRecDepth 20000 in
theorem c_M_image_b132 {r : Int32} {wz : gW} {rec132 : Nat × Int32 × gW → Option (Int32 × gW)} (ih132 : ∀ (a0 : Nat) (a1 : Int32) (w : gW) (ls : Array Slot) (H : Heap) (locs : List Loc), rec132 (a0, a1, w) = some (r, wz) → lv_has ls 2 [(0, .ref (B + a0)), (1, .int a1)] → gRep D cA B w H → va_S (gA B) s.heap H locs → W p l e ({ frames := 1, cells := 0, slots := 0, locals := 40 } : Room) s m args below meth c H locs 0 0 (MQ below (gQi D cA B r wz) args s 0 0 (gA B)) (F0 m 132 ls [])) (C : gC p s m args meth c "RidCoppersModel" b_M_image 2 (some .int) D cA oc B) (a0 : Nat) (a1 : Int32) (w : gW) {ls : Array Slot} {H : Heap} {locs : List Loc} (hl : lv_has ls 2 [(0, .ref (B + a0)), (1, .int a1)]) (hf : f_M_image_b132 N rec132 a0 a1 w = some (r, wz)) (hR : gRep D cA B w H) (hS : va_S (gA B) s.heap H locs) : W p l e ({ frames := 1, cells := 0, slots := 0, locals := 40 } : Room) s m args below meth c H locs 0 0 (MQ below (gQi D cA B r wz) args s 0 0 (gA B)) (F0 m 132 ls []) := by
  obtain ⟨hx, hb, hml, hown, hts, hr, hlocks, hK, hBs⟩ := id C
  unfold f_M_image_b132 at hf
  refine lv_iload_n hx hb d_M_image_132 rfl (lv_at hl 1 rfl) ?_
  refine lv_bipush (v := 16) hx hb d_M_image_133 (by decide) ?_
  refine lv_icmp_ge (tgt := 156) hx hb d_M_image_135 (by decide) (fun hc => ?_) (fun hc => ?_)
  · have hf := cd_t hc hf
    refine lv_iconst (v := 0) hx hb d_M_image_156 (by decide) ?_
    refine lv_istore_n (lv' := [(1, .int 0), (0, .ref (B + a0))]) hx hb d_M_image_157 rfl hl (by decide) rfl (fun ls hl => ?_)
    exact c_M_image_l158 C a0 0 w (lv_sub hl [1, 0] rfl) hf hR hS
  have hf := cd_f hc hf
  refine lv_aload_n hx hb d_M_image_138 rfl (lv_at hl 0 rfl) ?_
  have ⟨h67, hf⟩ := gd_e hf
  have ⟨x68, h69, hf⟩ := rr_e hf
  refine g_getR hx hb hts hown hK hR fl_M_187 (fun _ => rfl) h67 h69 d_M_image_139 ?_
  refine lv_iload_n hx hb d_M_image_142 rfl (lv_at hl 1 rfl) ?_
  refine lv_aload_n hx hb d_M_image_143 rfl (lv_at hl 0 rfl) ?_
  have ⟨x70, h71, hf⟩ := rr_e hf
  refine g_getR hx hb hts hown hK hR fl_M_26 (fun _ => rfl) h67 h71 d_M_image_144 ?_
  refine lv_iload_n hx hb d_M_image_147 rfl (lv_at hl 1 rfl) ?_
  have ⟨h72, hf⟩ := gd_e hf
  have ⟨h73, hf⟩ := gd_e hf
  refine g_iald hx hb hK hR h72 h73 d_M_image_148 ?_
  refine g_nI hf (fun x74 hf => ?_)
  have ⟨h75, hf⟩ := gd_e hf
  have ⟨h76, hf⟩ := gd_e hf
  refine g_iast hx hb hK hR hS h75 h76 d_M_image_149 (fun H locs hR hS => ?_)
  refine g_nW hf hR (fun w77 hf hR => ?_)
  refine g_iinc (lv' := fun x78 => [(1, .int x78), (0, .ref (B + a0))]) hf hx hb d_M_image_150 hl (k := 1) rfl (by decide) (by decide) (fun _ => rfl) (fun x78 ls hf hl => ?_)
  refine lv_goto (tgt := 132) hx hb d_M_image_153 (by decide) ?_
  exact ih132 a0 x78 w77 _ _ _ hf (lv_sub hl [1, 0] rfl) hR hS
theorem c_M_image_l132 {r : Int32} {wz : gW} (C : gC p s m args meth c "RidCoppersModel" b_M_image 2 (some .int) D cA oc B) (a0 : Nat) (a1 : Int32) (w : gW) {ls : Array Slot} {H : Heap} {locs : List Loc} (hl : lv_has ls 2 [(0, .ref (B + a0)), (1, .int a1)]) (hf : f_M_image_l132 N a0 a1 w = some (r, wz)) (hR : gRep D cA B w H) (hS : va_S (gA B) s.heap H locs) : W p l e ({ frames := 1, cells := 0, slots := 0, locals := 40 } : Room) s m args below meth c H locs 0 0 (MQ below (gQi D cA B r wz) args s 0 0 (gA B)) (F0 m 132 ls []) := by
  unfold f_M_image_l132 at hf
  suffices hh : ∀ n : Nat, ∀ (a0 : Nat) (a1 : Int32) (w : gW) (ls : Array Slot) (H : Heap) (locs : List Loc), itr (fun rec (q : Nat × Int32 × gW) => f_M_image_b132 N rec q.1 q.2.1 q.2.2) n (a0, a1, w) = some (r, wz) → lv_has ls 2 [(0, .ref (B + a0)), (1, .int a1)] → gRep D cA B w H → va_S (gA B) s.heap H locs → W p l e ({ frames := 1, cells := 0, slots := 0, locals := 40 } : Room) s m args below meth c H locs 0 0 (MQ below (gQi D cA B r wz) args s 0 0 (gA B)) (F0 m 132 ls []) from hh N a0 a1 w ls H locs hf hl hR hS
  intro n
  induction n with
  | zero => intro a0 a1 w ls H locs hf; cases hf
  | succ n ihn =>
    intro a0 a1 w ls H locs hf hl hR hS
    exact c_M_image_b132 (N := N) ihn C a0 a1 w hl ((itr_s _ _ _).symm.trans hf) hR hS
set_option maxRecDepth 20000 in
theorem c_M_image_b47 {r : Int32} {wz : gW} {rec47 : Nat × Int32 × gW → Option (Int32 × gW)} (ih47 : ∀ (a0 : Nat) (a1 : Int32) (w : gW) (ls : Array Slot) (H : Heap) (locs : List Loc), rec47 (a0, a1, w) = some (r, wz) → lv_has ls 2 [(0, .ref (B + a0)), (1, .int a1)] → gRep D cA B w H → va_S (gA B) s.heap H locs → W p l e ({ frames := 1, cells := 0, slots := 0, locals := 40 } : Room) s m args below meth c H locs 0 0 (MQ below (gQi D cA B r wz) args s 0 0 (gA B)) (F0 m 47 ls [])) (C : gC p s m args meth c "RidCoppersModel" b_M_image 2 (some .int) D cA oc B) (a0 : Nat) (a1 : Int32) (w : gW) {ls : Array Slot} {H : Heap} {locs : List Loc} (hl : lv_has ls 2 [(0, .ref (B + a0)), (1, .int a1)]) (hf : f_M_image_b47 N rec47 a0 a1 w = some (r, wz)) (hR : gRep D cA B w H) (hS : va_S (gA B) s.heap H locs) : W p l e ({ frames := 1, cells := 0, slots := 0, locals := 40 } : Room) s m args below meth c H locs 0 0 (MQ below (gQi D cA B r wz) args s 0 0 (gA B)) (F0 m 47 ls []) := by
  obtain ⟨hx, hb, hml, hown, hts, hr, hlocks, hK, hBs⟩ := id C
  unfold f_M_image_b47 at hf
  refine lv_iload_n hx hb d_M_image_47 rfl (lv_at hl 1 rfl) ?_
  refine lv_iconst (v := 4) hx hb d_M_image_48 (by decide) ?_
  refine lv_icmp_ge (tgt := 130) hx hb d_M_image_49 (by decide) (fun hc => ?_) (fun hc => ?_)
  · have hf := cd_t hc hf
    refine lv_iconst (v := 0) hx hb d_M_image_130 (by decide) ?_
    refine lv_istore_n (lv' := [(1, .int 0), (0, .ref (B + a0))]) hx hb d_M_image_131 rfl hl (by decide) rfl (fun ls hl => ?_)
    exact c_M_image_l132 C a0 0 w (lv_sub hl [1, 0] rfl) hf hR hS
  have hf := cd_f hc hf
  refine lv_aload_n hx hb d_M_image_52 rfl (lv_at hl 0 rfl) ?_
  have ⟨h79, hf⟩ := gd_e hf
  have ⟨x80, h81, hf⟩ := rr_e hf
  refine g_getR hx hb hts hown hK hR fl_M_178 (fun _ => rfl) h79 h81 d_M_image_53 ?_
  refine lv_iload_n hx hb d_M_image_56 rfl (lv_at hl 1 rfl) ?_
  refine lv_aload_n hx hb d_M_image_57 rfl (lv_at hl 0 rfl) ?_
  have ⟨x82, h83, hf⟩ := rr_e hf
  refine g_getR hx hb hts hown hK hR fl_M_17 (fun _ => rfl) h79 h83 d_M_image_58 ?_
  refine lv_iload_n hx hb d_M_image_61 rfl (lv_at hl 1 rfl) ?_
  have ⟨h84, hf⟩ := gd_e hf
  have ⟨h85, hf⟩ := gd_e hf
  refine g_iald hx hb hK hR h84 h85 d_M_image_62 ?_
  refine g_nI hf (fun x86 hf => ?_)
  have ⟨h87, hf⟩ := gd_e hf
  have ⟨h88, hf⟩ := gd_e hf
  refine g_iast hx hb hK hR hS h87 h88 d_M_image_63 (fun H locs hR hS => ?_)
  refine g_nW hf hR (fun w89 hf hR => ?_)
  refine lv_aload_n hx hb d_M_image_64 rfl (lv_at hl 0 rfl) ?_
  have ⟨h90, hf⟩ := gd_e hf
  have ⟨x91, h92, hf⟩ := rr_e hf
  refine g_getR hx hb hts hown hK hR fl_M_181 (fun _ => rfl) h90 h92 d_M_image_65 ?_
  refine lv_iload_n hx hb d_M_image_68 rfl (lv_at hl 1 rfl) ?_
  refine lv_aload_n hx hb d_M_image_69 rfl (lv_at hl 0 rfl) ?_
  have ⟨x93, h94, hf⟩ := rr_e hf
  refine g_getR hx hb hts hown hK hR fl_M_20 (fun _ => rfl) h90 h94 d_M_image_70 ?_
  refine lv_iload_n hx hb d_M_image_73 rfl (lv_at hl 1 rfl) ?_
  have ⟨h95, hf⟩ := gd_e hf
  have ⟨h96, hf⟩ := gd_e hf
  refine g_iald hx hb hK hR h95 h96 d_M_image_74 ?_
  refine g_nI hf (fun x97 hf => ?_)
  have ⟨h98, hf⟩ := gd_e hf
  have ⟨h99, hf⟩ := gd_e hf
  refine g_iast hx hb hK hR hS h98 h99 d_M_image_75 (fun H locs hR hS => ?_)
  refine g_nW hf hR (fun w100 hf hR => ?_)
  refine lv_aload_n hx hb d_M_image_76 rfl (lv_at hl 0 rfl) ?_
  have ⟨h101, hf⟩ := gd_e hf
  have ⟨x102, h103, hf⟩ := rr_e hf
  refine g_getR hx hb hts hown hK hR fl_M_184 (fun _ => rfl) h101 h103 d_M_image_77 ?_
  refine lv_iload_n hx hb d_M_image_80 rfl (lv_at hl 1 rfl) ?_
  refine lv_aload_n hx hb d_M_image_81 rfl (lv_at hl 0 rfl) ?_
  have ⟨x104, h105, hf⟩ := rr_e hf
  refine g_getR hx hb hts hown hK hR fl_M_23 (fun _ => rfl) h101 h105 d_M_image_82 ?_
  refine lv_iload_n hx hb d_M_image_85 rfl (lv_at hl 1 rfl) ?_
  have ⟨h106, hf⟩ := gd_e hf
  have ⟨h107, hf⟩ := gd_e hf
  refine g_iald hx hb hK hR h106 h107 d_M_image_86 ?_
  refine g_nI hf (fun x108 hf => ?_)
  have ⟨h109, hf⟩ := gd_e hf
  have ⟨h110, hf⟩ := gd_e hf
  refine g_iast hx hb hK hR hS h109 h110 d_M_image_87 (fun H locs hR hS => ?_)
  refine g_nW hf hR (fun w111 hf hR => ?_)
  refine lv_aload_n hx hb d_M_image_88 rfl (lv_at hl 0 rfl) ?_
  have ⟨h112, hf⟩ := gd_e hf
  have ⟨x113, h114, hf⟩ := rr_e hf
  refine g_getR hx hb hts hown hK hR fl_M_196 (fun _ => rfl) h112 h114 d_M_image_89 ?_
  refine lv_iload_n hx hb d_M_image_92 rfl (lv_at hl 1 rfl) ?_
  refine lv_aload_n hx hb d_M_image_93 rfl (lv_at hl 0 rfl) ?_
  have ⟨x115, h116, hf⟩ := rr_e hf
  refine g_getR hx hb hts hown hK hR fl_M_138 (fun _ => rfl) h112 h116 d_M_image_94 ?_
  refine lv_iload_n hx hb d_M_image_97 rfl (lv_at hl 1 rfl) ?_
  have ⟨h117, hf⟩ := gd_e hf
  have ⟨h118, hf⟩ := gd_e hf
  refine g_iald hx hb hK hR h117 h118 d_M_image_98 ?_
  refine g_nI hf (fun x119 hf => ?_)
  have ⟨h120, hf⟩ := gd_e hf
  have ⟨h121, hf⟩ := gd_e hf
  refine g_iast hx hb hK hR hS h120 h121 d_M_image_99 (fun H locs hR hS => ?_)
  refine g_nW hf hR (fun w122 hf hR => ?_)
  refine lv_aload_n hx hb d_M_image_100 rfl (lv_at hl 0 rfl) ?_
  have ⟨h123, hf⟩ := gd_e hf
  have ⟨x124, h125, hf⟩ := rr_e hf
  refine g_getR hx hb hts hown hK hR fl_M_199 (fun _ => rfl) h123 h125 d_M_image_101 ?_
  refine lv_iload_n hx hb d_M_image_104 rfl (lv_at hl 1 rfl) ?_
  refine lv_aload_n hx hb d_M_image_105 rfl (lv_at hl 0 rfl) ?_
  have ⟨x126, h127, hf⟩ := rr_e hf
  refine g_getR hx hb hts hown hK hR fl_M_144 (fun _ => rfl) h123 h127 d_M_image_106 ?_
  refine lv_iload_n hx hb d_M_image_109 rfl (lv_at hl 1 rfl) ?_
  have ⟨h128, hf⟩ := gd_e hf
  have ⟨h129, hf⟩ := gd_e hf
  refine g_iald hx hb hK hR h128 h129 d_M_image_110 ?_
  refine g_nI hf (fun x130 hf => ?_)
  have ⟨h131, hf⟩ := gd_e hf
  have ⟨h132, hf⟩ := gd_e hf
  refine g_iast hx hb hK hR hS h131 h132 d_M_image_111 (fun H locs hR hS => ?_)
  refine g_nW hf hR (fun w133 hf hR => ?_)
  refine lv_aload_n hx hb d_M_image_112 rfl (lv_at hl 0 rfl) ?_
  have ⟨h134, hf⟩ := gd_e hf
  have ⟨x135, h136, hf⟩ := rr_e hf
  refine g_getR hx hb hts hown hK hR fl_M_202 (fun _ => rfl) h134 h136 d_M_image_113 ?_
  refine lv_iload_n hx hb d_M_image_116 rfl (lv_at hl 1 rfl) ?_
  refine lv_aload_n hx hb d_M_image_117 rfl (lv_at hl 0 rfl) ?_
  have ⟨x137, h138, hf⟩ := rr_e hf
  refine g_getR hx hb hts hown hK hR fl_M_147 (fun _ => rfl) h134 h138 d_M_image_118 ?_
  refine lv_iload_n hx hb d_M_image_121 rfl (lv_at hl 1 rfl) ?_
  have ⟨h139, hf⟩ := gd_e hf
  have ⟨h140, hf⟩ := gd_e hf
  refine g_iald hx hb hK hR h139 h140 d_M_image_122 ?_
  refine g_nI hf (fun x141 hf => ?_)
  have ⟨h142, hf⟩ := gd_e hf
  have ⟨h143, hf⟩ := gd_e hf
  refine g_iast hx hb hK hR hS h142 h143 d_M_image_123 (fun H locs hR hS => ?_)
  refine g_nW hf hR (fun w144 hf hR => ?_)
  refine g_iinc (lv' := fun x145 => [(1, .int x145), (0, .ref (B + a0))]) hf hx hb d_M_image_124 hl (k := 1) rfl (by decide) (by decide) (fun _ => rfl) (fun x145 ls hf hl => ?_)
  refine lv_goto (tgt := 47) hx hb d_M_image_127 (by decide) ?_
  exact ih47 a0 x145 w144 _ _ _ hf (lv_sub hl [1, 0] rfl) hR hS
theorem c_M_image_l47 {r : Int32} {wz : gW} (C : gC p s m args meth c "RidCoppersModel" b_M_image 2 (some .int) D cA oc B) (a0 : Nat) (a1 : Int32) (w : gW) {ls : Array Slot} {H : Heap} {locs : List Loc} (hl : lv_has ls 2 [(0, .ref (B + a0)), (1, .int a1)]) (hf : f_M_image_l47 N a0 a1 w = some (r, wz)) (hR : gRep D cA B w H) (hS : va_S (gA B) s.heap H locs) : W p l e ({ frames := 1, cells := 0, slots := 0, locals := 40 } : Room) s m args below meth c H locs 0 0 (MQ below (gQi D cA B r wz) args s 0 0 (gA B)) (F0 m 47 ls []) := by
  unfold f_M_image_l47 at hf
  suffices hh : ∀ n : Nat, ∀ (a0 : Nat) (a1 : Int32) (w : gW) (ls : Array Slot) (H : Heap) (locs : List Loc), itr (fun rec (q : Nat × Int32 × gW) => f_M_image_b47 N rec q.1 q.2.1 q.2.2) n (a0, a1, w) = some (r, wz) → lv_has ls 2 [(0, .ref (B + a0)), (1, .int a1)] → gRep D cA B w H → va_S (gA B) s.heap H locs → W p l e ({ frames := 1, cells := 0, slots := 0, locals := 40 } : Room) s m args below meth c H locs 0 0 (MQ below (gQi D cA B r wz) args s 0 0 (gA B)) (F0 m 47 ls []) from hh N a0 a1 w ls H locs hf hl hR hS
  intro n
  induction n with
  | zero => intro a0 a1 w ls H locs hf; cases hf
  | succ n ihn =>
    intro a0 a1 w ls H locs hf hl hR hS
    exact c_M_image_b47 (N := N) ihn C a0 a1 w hl ((itr_s _ _ _).symm.trans hf) hR hS
set_option maxRecDepth 20000 in
theorem c_M_image_b0 {r : Int32} {wz : gW} (C : gC p s m args meth c "RidCoppersModel" b_M_image 2 (some .int) D cA oc B) (a0 : Nat) (w : gW) {ls : Array Slot} {H : Heap} {locs : List Loc} (hl : lv_has ls 2 [(0, .ref (B + a0))]) (hf : f_M_image_b0 N a0 w = some (r, wz)) (hR : gRep D cA B w H) (hS : va_S (gA B) s.heap H locs) : W p l e ({ frames := 1, cells := 0, slots := 0, locals := 40 } : Room) s m args below meth c H locs 0 0 (MQ below (gQi D cA B r wz) args s 0 0 (gA B)) (F0 m 0 ls []) := by
  obtain ⟨hx, hb, hml, hown, hts, hr, hlocks, hK, hBs⟩ := id C
  unfold f_M_image_b0 at hf
  refine lv_aload_n hx hb d_M_image_0 rfl (lv_at hl 0 rfl) ?_
  refine lv_iconst (v := 1) hx hb d_M_image_1 (by decide) ?_
  have ⟨h1, hf⟩ := gd_e hf
  refine g_putI hx hb hts hown hK hR hS pf_M_159 (fun _ => rfl) rfl rfl h1 d_M_image_2 (fun H locs hR hS => ?_)
  refine g_nW hf hR (fun w2 hf hR => ?_)
  refine lv_aload_n hx hb d_M_image_5 rfl (lv_at hl 0 rfl) ?_
  refine lv_aload_n hx hb d_M_image_6 rfl (lv_at hl 0 rfl) ?_
  have ⟨h3, hf⟩ := gd_e hf
  refine g_getI hx hb hts hown hK hR fl_M_38 (fun _ => rfl) h3 d_M_image_7 ?_
  refine g_nI hf (fun x4 hf => ?_)
  refine g_putI hx hb hts hown hK hR hS pf_M_163 (fun _ => rfl) rfl rfl h3 d_M_image_10 (fun H locs hR hS => ?_)
  refine g_nW hf hR (fun w5 hf hR => ?_)
  refine lv_aload_n hx hb d_M_image_13 rfl (lv_at hl 0 rfl) ?_
  refine lv_aload_n hx hb d_M_image_14 rfl (lv_at hl 0 rfl) ?_
  have ⟨h6, hf⟩ := gd_e hf
  refine g_getI hx hb hts hown hK hR fl_M_7 (fun _ => rfl) h6 d_M_image_15 ?_
  refine g_nI hf (fun x7 hf => ?_)
  refine g_putI hx hb hts hown hK hR hS pf_M_166 (fun _ => rfl) rfl rfl h6 d_M_image_18 (fun H locs hR hS => ?_)
  refine g_nW hf hR (fun w8 hf hR => ?_)
  refine lv_aload_n hx hb d_M_image_21 rfl (lv_at hl 0 rfl) ?_
  refine lv_aload_n hx hb d_M_image_22 rfl (lv_at hl 0 rfl) ?_
  have ⟨h9, hf⟩ := gd_e hf
  refine g_getI hx hb hts hown hK hR fl_M_135 (fun _ => rfl) h9 d_M_image_23 ?_
  refine g_nI hf (fun x10 hf => ?_)
  refine g_putI hx hb hts hown hK hR hS pf_M_169 (fun _ => rfl) rfl rfl h9 d_M_image_26 (fun H locs hR hS => ?_)
  refine g_nW hf hR (fun w11 hf hR => ?_)
  refine lv_aload_n hx hb d_M_image_29 rfl (lv_at hl 0 rfl) ?_
  refine lv_aload_n hx hb d_M_image_30 rfl (lv_at hl 0 rfl) ?_
  have ⟨h12, hf⟩ := gd_e hf
  refine g_getI hx hb hts hown hK hR fl_M_141 (fun _ => rfl) h12 d_M_image_31 ?_
  refine g_nI hf (fun x13 hf => ?_)
  refine g_putI hx hb hts hown hK hR hS pf_M_172 (fun _ => rfl) rfl rfl h12 d_M_image_34 (fun H locs hR hS => ?_)
  refine g_nW hf hR (fun w14 hf hR => ?_)
  refine lv_aload_n hx hb d_M_image_37 rfl (lv_at hl 0 rfl) ?_
  refine lv_aload_n hx hb d_M_image_38 rfl (lv_at hl 0 rfl) ?_
  have ⟨h15, hf⟩ := gd_e hf
  refine g_getI hx hb hts hown hK hR fl_M_150 (fun _ => rfl) h15 d_M_image_39 ?_
  refine g_nI hf (fun x16 hf => ?_)
  refine g_putI hx hb hts hown hK hR hS pf_M_175 (fun _ => rfl) rfl rfl h15 d_M_image_42 (fun H locs hR hS => ?_)
  refine g_nW hf hR (fun w17 hf hR => ?_)
  refine lv_iconst (v := 0) hx hb d_M_image_45 (by decide) ?_
  refine lv_istore_n (lv' := [(1, .int 0), (0, .ref (B + a0))]) hx hb d_M_image_46 rfl hl (by decide) rfl (fun ls hl => ?_)
  exact c_M_image_l47 C a0 0 w17 (lv_sub hl [1, 0] rfl) hf hR hS
theorem c_M_image (l : Launch) (D : va_G) (cA : Nat → ClassId) (oc : gO) (B N : Nat) (a0 : Nat) (w : gW) {wz : gW} {r : Int32} (hf : f_M_image N a0 w = some (r, wz)) : Met l y_M_image (Cond.code y_M_image b_M_image 2 (some .int) :: lw_good) ({ frames := 1, cells := 0, slots := 0, locals := 40 } : Room) (gPre D cA oc B [.ref (B + a0)] w) (gQi D cA B r wz) 0 0 (gA B) := by
  refine Met.ofW (cc := b_M_image) (maxL := 2) (ret := (some .int)) (by decide +kernel) rfl ?_
  intro p e s m args below meth c s₁ Bd hml hv
  obtain ⟨hargs, C, hR⟩ := gC.enter (l := l) rfl Bd hml hv
  subst hargs
  have hl := lv_entry ([.ref (B + a0)]) (n := 2) (Nat.le_of_ble_eq_true rfl)
  rw [lg_entry_eq]
  generalize (lg_sl ([.ref (B + a0)]) ++ List.replicate (2 - (lg_sl ([.ref (B + a0)])).length) Slot.unset).toArray = ls at hl ⊢
  have hl : lv_has ls 2 [(0, .ref (B + a0))] := hl
  exact c_M_image_b0 C a0 w (lv_sub hl [0] rfl) hf hR va_S.rf
theorem d_M_undo_0 : decode b_M_undo 0 = .ok (.aload_n 0, 1) := by decide +kernel
theorem d_M_undo_1 : decode b_M_undo 1 = .ok (.getfield 159, 3) := by decide +kernel
theorem d_M_undo_4 : decode b_M_undo 4 = .ok (.ifCond .ne 6, 3) := by decide +kernel
theorem d_M_undo_7 : decode b_M_undo 7 = .ok (.bipush (-3), 2) := by decide +kernel
theorem d_M_undo_9 : decode b_M_undo 9 = .ok (.ireturn, 1) := by decide +kernel
theorem d_M_undo_10 : decode b_M_undo 10 = .ok (.aload_n 0, 1) := by decide +kernel
theorem d_M_undo_11 : decode b_M_undo 11 = .ok (.aload_n 0, 1) := by decide +kernel
theorem d_M_undo_12 : decode b_M_undo 12 = .ok (.getfield 163, 3) := by decide +kernel
theorem d_M_undo_15 : decode b_M_undo 15 = .ok (.putfield 38, 3) := by decide +kernel
theorem d_M_undo_18 : decode b_M_undo 18 = .ok (.aload_n 0, 1) := by decide +kernel
theorem d_M_undo_19 : decode b_M_undo 19 = .ok (.aload_n 0, 1) := by decide +kernel
theorem d_M_undo_20 : decode b_M_undo 20 = .ok (.getfield 166, 3) := by decide +kernel
theorem d_M_undo_23 : decode b_M_undo 23 = .ok (.putfield 7, 3) := by decide +kernel
theorem d_M_undo_26 : decode b_M_undo 26 = .ok (.aload_n 0, 1) := by decide +kernel
theorem d_M_undo_27 : decode b_M_undo 27 = .ok (.aload_n 0, 1) := by decide +kernel
theorem d_M_undo_28 : decode b_M_undo 28 = .ok (.getfield 169, 3) := by decide +kernel
theorem d_M_undo_31 : decode b_M_undo 31 = .ok (.putfield 135, 3) := by decide +kernel
theorem d_M_undo_34 : decode b_M_undo 34 = .ok (.aload_n 0, 1) := by decide +kernel
theorem d_M_undo_35 : decode b_M_undo 35 = .ok (.aload_n 0, 1) := by decide +kernel
theorem d_M_undo_36 : decode b_M_undo 36 = .ok (.getfield 172, 3) := by decide +kernel
theorem d_M_undo_39 : decode b_M_undo 39 = .ok (.putfield 141, 3) := by decide +kernel
theorem d_M_undo_42 : decode b_M_undo 42 = .ok (.aload_n 0, 1) := by decide +kernel
theorem d_M_undo_43 : decode b_M_undo 43 = .ok (.aload_n 0, 1) := by decide +kernel
theorem d_M_undo_44 : decode b_M_undo 44 = .ok (.getfield 175, 3) := by decide +kernel
theorem d_M_undo_47 : decode b_M_undo 47 = .ok (.putfield 150, 3) := by decide +kernel
theorem d_M_undo_50 : decode b_M_undo 50 = .ok (.iconst 0, 1) := by decide +kernel
theorem d_M_undo_51 : decode b_M_undo 51 = .ok (.istore_n 1, 1) := by decide +kernel
theorem d_M_undo_52 : decode b_M_undo 52 = .ok (.iload_n 1, 1) := by decide +kernel
theorem d_M_undo_53 : decode b_M_undo 53 = .ok (.iconst 4, 1) := by decide +kernel
theorem d_M_undo_54 : decode b_M_undo 54 = .ok (.if_icmp .ge 81, 3) := by decide +kernel
theorem d_M_undo_57 : decode b_M_undo 57 = .ok (.aload_n 0, 1) := by decide +kernel
theorem d_M_undo_58 : decode b_M_undo 58 = .ok (.getfield 17, 3) := by decide +kernel
theorem d_M_undo_61 : decode b_M_undo 61 = .ok (.iload_n 1, 1) := by decide +kernel
theorem d_M_undo_62 : decode b_M_undo 62 = .ok (.aload_n 0, 1) := by decide +kernel
theorem d_M_undo_63 : decode b_M_undo 63 = .ok (.getfield 178, 3) := by decide +kernel
theorem d_M_undo_66 : decode b_M_undo 66 = .ok (.iload_n 1, 1) := by decide +kernel
theorem d_M_undo_67 : decode b_M_undo 67 = .ok (.iaload, 1) := by decide +kernel
theorem d_M_undo_68 : decode b_M_undo 68 = .ok (.iastore, 1) := by decide +kernel
theorem d_M_undo_69 : decode b_M_undo 69 = .ok (.aload_n 0, 1) := by decide +kernel
theorem d_M_undo_70 : decode b_M_undo 70 = .ok (.getfield 20, 3) := by decide +kernel
theorem d_M_undo_73 : decode b_M_undo 73 = .ok (.iload_n 1, 1) := by decide +kernel
theorem d_M_undo_74 : decode b_M_undo 74 = .ok (.aload_n 0, 1) := by decide +kernel
theorem d_M_undo_75 : decode b_M_undo 75 = .ok (.getfield 181, 3) := by decide +kernel
theorem d_M_undo_78 : decode b_M_undo 78 = .ok (.iload_n 1, 1) := by decide +kernel
theorem d_M_undo_79 : decode b_M_undo 79 = .ok (.iaload, 1) := by decide +kernel
theorem d_M_undo_80 : decode b_M_undo 80 = .ok (.iastore, 1) := by decide +kernel
theorem d_M_undo_81 : decode b_M_undo 81 = .ok (.aload_n 0, 1) := by decide +kernel
theorem d_M_undo_82 : decode b_M_undo 82 = .ok (.getfield 23, 3) := by decide +kernel
theorem d_M_undo_85 : decode b_M_undo 85 = .ok (.iload_n 1, 1) := by decide +kernel
theorem d_M_undo_86 : decode b_M_undo 86 = .ok (.aload_n 0, 1) := by decide +kernel
theorem d_M_undo_87 : decode b_M_undo 87 = .ok (.getfield 184, 3) := by decide +kernel
theorem d_M_undo_90 : decode b_M_undo 90 = .ok (.iload_n 1, 1) := by decide +kernel
theorem d_M_undo_91 : decode b_M_undo 91 = .ok (.iaload, 1) := by decide +kernel
theorem d_M_undo_92 : decode b_M_undo 92 = .ok (.iastore, 1) := by decide +kernel
theorem d_M_undo_93 : decode b_M_undo 93 = .ok (.aload_n 0, 1) := by decide +kernel
theorem d_M_undo_94 : decode b_M_undo 94 = .ok (.getfield 138, 3) := by decide +kernel
theorem d_M_undo_97 : decode b_M_undo 97 = .ok (.iload_n 1, 1) := by decide +kernel
theorem d_M_undo_98 : decode b_M_undo 98 = .ok (.aload_n 0, 1) := by decide +kernel
theorem d_M_undo_99 : decode b_M_undo 99 = .ok (.getfield 196, 3) := by decide +kernel
theorem d_M_undo_102 : decode b_M_undo 102 = .ok (.iload_n 1, 1) := by decide +kernel
theorem d_M_undo_103 : decode b_M_undo 103 = .ok (.iaload, 1) := by decide +kernel
theorem d_M_undo_104 : decode b_M_undo 104 = .ok (.iastore, 1) := by decide +kernel
theorem d_M_undo_105 : decode b_M_undo 105 = .ok (.aload_n 0, 1) := by decide +kernel
theorem d_M_undo_106 : decode b_M_undo 106 = .ok (.getfield 144, 3) := by decide +kernel
theorem d_M_undo_109 : decode b_M_undo 109 = .ok (.iload_n 1, 1) := by decide +kernel
theorem d_M_undo_110 : decode b_M_undo 110 = .ok (.aload_n 0, 1) := by decide +kernel
theorem d_M_undo_111 : decode b_M_undo 111 = .ok (.getfield 199, 3) := by decide +kernel
theorem d_M_undo_114 : decode b_M_undo 114 = .ok (.iload_n 1, 1) := by decide +kernel
theorem d_M_undo_115 : decode b_M_undo 115 = .ok (.iaload, 1) := by decide +kernel
theorem d_M_undo_116 : decode b_M_undo 116 = .ok (.iastore, 1) := by decide +kernel
theorem d_M_undo_117 : decode b_M_undo 117 = .ok (.aload_n 0, 1) := by decide +kernel
theorem d_M_undo_118 : decode b_M_undo 118 = .ok (.getfield 147, 3) := by decide +kernel
theorem d_M_undo_121 : decode b_M_undo 121 = .ok (.iload_n 1, 1) := by decide +kernel
theorem d_M_undo_122 : decode b_M_undo 122 = .ok (.aload_n 0, 1) := by decide +kernel
theorem d_M_undo_123 : decode b_M_undo 123 = .ok (.getfield 202, 3) := by decide +kernel
theorem d_M_undo_126 : decode b_M_undo 126 = .ok (.iload_n 1, 1) := by decide +kernel
theorem d_M_undo_127 : decode b_M_undo 127 = .ok (.iaload, 1) := by decide +kernel
theorem d_M_undo_128 : decode b_M_undo 128 = .ok (.iastore, 1) := by decide +kernel
theorem d_M_undo_129 : decode b_M_undo 129 = .ok (.iinc 1 1, 3) := by decide +kernel
theorem d_M_undo_132 : decode b_M_undo 132 = .ok (.goto (-80), 3) := by decide +kernel
theorem d_M_undo_135 : decode b_M_undo 135 = .ok (.iconst 0, 1) := by decide +kernel
theorem d_M_undo_136 : decode b_M_undo 136 = .ok (.istore_n 1, 1) := by decide +kernel
theorem d_M_undo_137 : decode b_M_undo 137 = .ok (.iload_n 1, 1) := by decide +kernel
theorem d_M_undo_138 : decode b_M_undo 138 = .ok (.bipush 16, 2) := by decide +kernel
theorem d_M_undo_140 : decode b_M_undo 140 = .ok (.if_icmp .ge 21, 3) := by decide +kernel
theorem d_M_undo_143 : decode b_M_undo 143 = .ok (.aload_n 0, 1) := by decide +kernel
theorem d_M_undo_144 : decode b_M_undo 144 = .ok (.getfield 26, 3) := by decide +kernel
theorem d_M_undo_147 : decode b_M_undo 147 = .ok (.iload_n 1, 1) := by decide +kernel
theorem d_M_undo_148 : decode b_M_undo 148 = .ok (.aload_n 0, 1) := by decide +kernel
theorem d_M_undo_149 : decode b_M_undo 149 = .ok (.getfield 187, 3) := by decide +kernel
theorem d_M_undo_152 : decode b_M_undo 152 = .ok (.iload_n 1, 1) := by decide +kernel
theorem d_M_undo_153 : decode b_M_undo 153 = .ok (.iaload, 1) := by decide +kernel
theorem d_M_undo_154 : decode b_M_undo 154 = .ok (.iastore, 1) := by decide +kernel
theorem d_M_undo_155 : decode b_M_undo 155 = .ok (.iinc 1 1, 3) := by decide +kernel
theorem d_M_undo_158 : decode b_M_undo 158 = .ok (.goto (-21), 3) := by decide +kernel
theorem d_M_undo_161 : decode b_M_undo 161 = .ok (.iconst 0, 1) := by decide +kernel
theorem d_M_undo_162 : decode b_M_undo 162 = .ok (.istore_n 1, 1) := by decide +kernel
theorem d_M_undo_163 : decode b_M_undo 163 = .ok (.iload_n 1, 1) := by decide +kernel
theorem d_M_undo_164 : decode b_M_undo 164 = .ok (.bipush 24, 2) := by decide +kernel
theorem d_M_undo_166 : decode b_M_undo 166 = .ok (.if_icmp .ge 21, 3) := by decide +kernel
theorem d_M_undo_169 : decode b_M_undo 169 = .ok (.aload_n 0, 1) := by decide +kernel
theorem d_M_undo_170 : decode b_M_undo 170 = .ok (.getfield 29, 3) := by decide +kernel
theorem d_M_undo_173 : decode b_M_undo 173 = .ok (.iload_n 1, 1) := by decide +kernel
theorem d_M_undo_174 : decode b_M_undo 174 = .ok (.aload_n 0, 1) := by decide +kernel
theorem d_M_undo_175 : decode b_M_undo 175 = .ok (.getfield 190, 3) := by decide +kernel
theorem d_M_undo_178 : decode b_M_undo 178 = .ok (.iload_n 1, 1) := by decide +kernel
theorem d_M_undo_179 : decode b_M_undo 179 = .ok (.iaload, 1) := by decide +kernel
theorem d_M_undo_180 : decode b_M_undo 180 = .ok (.iastore, 1) := by decide +kernel
theorem d_M_undo_181 : decode b_M_undo 181 = .ok (.iinc 1 1, 3) := by decide +kernel
theorem d_M_undo_184 : decode b_M_undo 184 = .ok (.goto (-21), 3) := by decide +kernel
theorem d_M_undo_187 : decode b_M_undo 187 = .ok (.iconst 0, 1) := by decide +kernel
theorem d_M_undo_188 : decode b_M_undo 188 = .ok (.istore_n 1, 1) := by decide +kernel
theorem d_M_undo_189 : decode b_M_undo 189 = .ok (.iload_n 1, 1) := by decide +kernel
theorem d_M_undo_190 : decode b_M_undo 190 = .ok (.bipush 6, 2) := by decide +kernel
theorem d_M_undo_192 : decode b_M_undo 192 = .ok (.if_icmp .ge 21, 3) := by decide +kernel
theorem d_M_undo_195 : decode b_M_undo 195 = .ok (.aload_n 0, 1) := by decide +kernel
theorem d_M_undo_196 : decode b_M_undo 196 = .ok (.getfield 32, 3) := by decide +kernel
theorem d_M_undo_199 : decode b_M_undo 199 = .ok (.iload_n 1, 1) := by decide +kernel
theorem d_M_undo_200 : decode b_M_undo 200 = .ok (.aload_n 0, 1) := by decide +kernel
theorem d_M_undo_201 : decode b_M_undo 201 = .ok (.getfield 193, 3) := by decide +kernel
theorem d_M_undo_204 : decode b_M_undo 204 = .ok (.iload_n 1, 1) := by decide +kernel
theorem d_M_undo_205 : decode b_M_undo 205 = .ok (.iaload, 1) := by decide +kernel
theorem d_M_undo_206 : decode b_M_undo 206 = .ok (.iastore, 1) := by decide +kernel
theorem d_M_undo_207 : decode b_M_undo 207 = .ok (.iinc 1 1, 3) := by decide +kernel
theorem d_M_undo_210 : decode b_M_undo 210 = .ok (.goto (-21), 3) := by decide +kernel
theorem d_M_undo_213 : decode b_M_undo 213 = .ok (.iconst 0, 1) := by decide +kernel
theorem d_M_undo_214 : decode b_M_undo 214 = .ok (.istore_n 1, 1) := by decide +kernel
theorem d_M_undo_215 : decode b_M_undo 215 = .ok (.iload_n 1, 1) := by decide +kernel
theorem d_M_undo_216 : decode b_M_undo 216 = .ok (.bipush 8, 2) := by decide +kernel
theorem d_M_undo_218 : decode b_M_undo 218 = .ok (.if_icmp .ge 33, 3) := by decide +kernel
theorem d_M_undo_221 : decode b_M_undo 221 = .ok (.aload_n 0, 1) := by decide +kernel
theorem d_M_undo_222 : decode b_M_undo 222 = .ok (.getfield 153, 3) := by decide +kernel
theorem d_M_undo_225 : decode b_M_undo 225 = .ok (.iload_n 1, 1) := by decide +kernel
theorem d_M_undo_226 : decode b_M_undo 226 = .ok (.aload_n 0, 1) := by decide +kernel
theorem d_M_undo_227 : decode b_M_undo 227 = .ok (.getfield 205, 3) := by decide +kernel
theorem d_M_undo_230 : decode b_M_undo 230 = .ok (.iload_n 1, 1) := by decide +kernel
theorem d_M_undo_231 : decode b_M_undo 231 = .ok (.iaload, 1) := by decide +kernel
theorem d_M_undo_232 : decode b_M_undo 232 = .ok (.iastore, 1) := by decide +kernel
theorem d_M_undo_233 : decode b_M_undo 233 = .ok (.aload_n 0, 1) := by decide +kernel
theorem d_M_undo_234 : decode b_M_undo 234 = .ok (.getfield 156, 3) := by decide +kernel
theorem d_M_undo_237 : decode b_M_undo 237 = .ok (.iload_n 1, 1) := by decide +kernel
theorem d_M_undo_238 : decode b_M_undo 238 = .ok (.aload_n 0, 1) := by decide +kernel
theorem d_M_undo_239 : decode b_M_undo 239 = .ok (.getfield 208, 3) := by decide +kernel
theorem d_M_undo_242 : decode b_M_undo 242 = .ok (.iload_n 1, 1) := by decide +kernel
theorem d_M_undo_243 : decode b_M_undo 243 = .ok (.iaload, 1) := by decide +kernel
theorem d_M_undo_244 : decode b_M_undo 244 = .ok (.iastore, 1) := by decide +kernel
theorem d_M_undo_245 : decode b_M_undo 245 = .ok (.iinc 1 1, 3) := by decide +kernel
theorem d_M_undo_248 : decode b_M_undo 248 = .ok (.goto (-33), 3) := by decide +kernel
theorem d_M_undo_251 : decode b_M_undo 251 = .ok (.aload_n 0, 1) := by decide +kernel
theorem d_M_undo_252 : decode b_M_undo 252 = .ok (.getfield 7, 3) := by decide +kernel
theorem d_M_undo_255 : decode b_M_undo 255 = .ok (.ireturn, 1) := by decide +kernel
set_option maxRecDepth 20000 in
theorem c_M_undo_b215 {r : Int32} {wz : gW} {rec215 : Nat × Int32 × gW → Option (Int32 × gW)} (ih215 : ∀ (a0 : Nat) (a1 : Int32) (w : gW) (ls : Array Slot) (H : Heap) (locs : List Loc), rec215 (a0, a1, w) = some (r, wz) → lv_has ls 2 [(0, .ref (B + a0)), (1, .int a1)] → gRep D cA B w H → va_S (gA B) s.heap H locs → W p l e ({ frames := 1, cells := 0, slots := 0, locals := 40 } : Room) s m args below meth c H locs 0 0 (MQ below (gQi D cA B r wz) args s 0 0 (gA B)) (F0 m 215 ls [])) (C : gC p s m args meth c "RidCoppersModel" b_M_undo 2 (some .int) D cA oc B) (a0 : Nat) (a1 : Int32) (w : gW) {ls : Array Slot} {H : Heap} {locs : List Loc} (hl : lv_has ls 2 [(0, .ref (B + a0)), (1, .int a1)]) (hf : f_M_undo_b215 N rec215 a0 a1 w = some (r, wz)) (hR : gRep D cA B w H) (hS : va_S (gA B) s.heap H locs) : W p l e ({ frames := 1, cells := 0, slots := 0, locals := 40 } : Room) s m args below meth c H locs 0 0 (MQ below (gQi D cA B r wz) args s 0 0 (gA B)) (F0 m 215 ls []) := by
  obtain ⟨hx, hb, hml, hown, hts, hr, hlocks, hK, hBs⟩ := id C
  unfold f_M_undo_b215 at hf
  refine lv_iload_n hx hb d_M_undo_215 rfl (lv_at hl 1 rfl) ?_
  refine lv_bipush (v := 8) hx hb d_M_undo_216 (by decide) ?_
  refine lv_icmp_ge (tgt := 251) hx hb d_M_undo_218 (by decide) (fun hc => ?_) (fun hc => ?_)
  · have hf := cd_t hc hf
    refine lv_aload_n hx hb d_M_undo_251 rfl (lv_at hl 0 rfl) ?_
    have ⟨h17, hf⟩ := gd_e hf
    refine g_getI hx hb hts hown hK hR fl_M_7 (fun _ => rfl) h17 d_M_undo_252 ?_
    refine g_nI hf (fun x18 hf => ?_)
    exact g_iret hx hb hr hlocks hR hS hf rfl d_M_undo_255
  have hf := cd_f hc hf
  refine lv_aload_n hx hb d_M_undo_221 rfl (lv_at hl 0 rfl) ?_
  have ⟨h19, hf⟩ := gd_e hf
  have ⟨x20, h21, hf⟩ := rr_e hf
  refine g_getR hx hb hts hown hK hR fl_M_153 (fun _ => rfl) h19 h21 d_M_undo_222 ?_
  refine lv_iload_n hx hb d_M_undo_225 rfl (lv_at hl 1 rfl) ?_
  refine lv_aload_n hx hb d_M_undo_226 rfl (lv_at hl 0 rfl) ?_
  have ⟨x22, h23, hf⟩ := rr_e hf
  refine g_getR hx hb hts hown hK hR fl_M_205 (fun _ => rfl) h19 h23 d_M_undo_227 ?_
  refine lv_iload_n hx hb d_M_undo_230 rfl (lv_at hl 1 rfl) ?_
  have ⟨h24, hf⟩ := gd_e hf
  have ⟨h25, hf⟩ := gd_e hf
  refine g_iald hx hb hK hR h24 h25 d_M_undo_231 ?_
  refine g_nI hf (fun x26 hf => ?_)
  have ⟨h27, hf⟩ := gd_e hf
  have ⟨h28, hf⟩ := gd_e hf
  refine g_iast hx hb hK hR hS h27 h28 d_M_undo_232 (fun H locs hR hS => ?_)
  refine g_nW hf hR (fun w29 hf hR => ?_)
  refine lv_aload_n hx hb d_M_undo_233 rfl (lv_at hl 0 rfl) ?_
  have ⟨h30, hf⟩ := gd_e hf
  have ⟨x31, h32, hf⟩ := rr_e hf
  refine g_getR hx hb hts hown hK hR fl_M_156 (fun _ => rfl) h30 h32 d_M_undo_234 ?_
  refine lv_iload_n hx hb d_M_undo_237 rfl (lv_at hl 1 rfl) ?_
  refine lv_aload_n hx hb d_M_undo_238 rfl (lv_at hl 0 rfl) ?_
  have ⟨x33, h34, hf⟩ := rr_e hf
  refine g_getR hx hb hts hown hK hR fl_M_208 (fun _ => rfl) h30 h34 d_M_undo_239 ?_
  refine lv_iload_n hx hb d_M_undo_242 rfl (lv_at hl 1 rfl) ?_
  have ⟨h35, hf⟩ := gd_e hf
  have ⟨h36, hf⟩ := gd_e hf
  refine g_iald hx hb hK hR h35 h36 d_M_undo_243 ?_
  refine g_nI hf (fun x37 hf => ?_)
  have ⟨h38, hf⟩ := gd_e hf
  have ⟨h39, hf⟩ := gd_e hf
  refine g_iast hx hb hK hR hS h38 h39 d_M_undo_244 (fun H locs hR hS => ?_)
  refine g_nW hf hR (fun w40 hf hR => ?_)
  refine g_iinc (lv' := fun x41 => [(1, .int x41), (0, .ref (B + a0))]) hf hx hb d_M_undo_245 hl (k := 1) rfl (by decide) (by decide) (fun _ => rfl) (fun x41 ls hf hl => ?_)
  refine lv_goto (tgt := 215) hx hb d_M_undo_248 (by decide) ?_
  exact ih215 a0 x41 w40 _ _ _ hf (lv_sub hl [1, 0] rfl) hR hS
theorem c_M_undo_l215 {r : Int32} {wz : gW} (C : gC p s m args meth c "RidCoppersModel" b_M_undo 2 (some .int) D cA oc B) (a0 : Nat) (a1 : Int32) (w : gW) {ls : Array Slot} {H : Heap} {locs : List Loc} (hl : lv_has ls 2 [(0, .ref (B + a0)), (1, .int a1)]) (hf : f_M_undo_l215 N a0 a1 w = some (r, wz)) (hR : gRep D cA B w H) (hS : va_S (gA B) s.heap H locs) : W p l e ({ frames := 1, cells := 0, slots := 0, locals := 40 } : Room) s m args below meth c H locs 0 0 (MQ below (gQi D cA B r wz) args s 0 0 (gA B)) (F0 m 215 ls []) := by
  unfold f_M_undo_l215 at hf
  suffices hh : ∀ n : Nat, ∀ (a0 : Nat) (a1 : Int32) (w : gW) (ls : Array Slot) (H : Heap) (locs : List Loc), itr (fun rec (q : Nat × Int32 × gW) => f_M_undo_b215 N rec q.1 q.2.1 q.2.2) n (a0, a1, w) = some (r, wz) → lv_has ls 2 [(0, .ref (B + a0)), (1, .int a1)] → gRep D cA B w H → va_S (gA B) s.heap H locs → W p l e ({ frames := 1, cells := 0, slots := 0, locals := 40 } : Room) s m args below meth c H locs 0 0 (MQ below (gQi D cA B r wz) args s 0 0 (gA B)) (F0 m 215 ls []) from hh N a0 a1 w ls H locs hf hl hR hS
  intro n
  induction n with
  | zero => intro a0 a1 w ls H locs hf; cases hf
  | succ n ihn =>
    intro a0 a1 w ls H locs hf hl hR hS
    exact c_M_undo_b215 (N := N) ihn C a0 a1 w hl ((itr_s _ _ _).symm.trans hf) hR hS
set_option maxRecDepth 20000 in
theorem c_M_undo_b189 {r : Int32} {wz : gW} {rec189 : Nat × Int32 × gW → Option (Int32 × gW)} (ih189 : ∀ (a0 : Nat) (a1 : Int32) (w : gW) (ls : Array Slot) (H : Heap) (locs : List Loc), rec189 (a0, a1, w) = some (r, wz) → lv_has ls 2 [(0, .ref (B + a0)), (1, .int a1)] → gRep D cA B w H → va_S (gA B) s.heap H locs → W p l e ({ frames := 1, cells := 0, slots := 0, locals := 40 } : Room) s m args below meth c H locs 0 0 (MQ below (gQi D cA B r wz) args s 0 0 (gA B)) (F0 m 189 ls [])) (C : gC p s m args meth c "RidCoppersModel" b_M_undo 2 (some .int) D cA oc B) (a0 : Nat) (a1 : Int32) (w : gW) {ls : Array Slot} {H : Heap} {locs : List Loc} (hl : lv_has ls 2 [(0, .ref (B + a0)), (1, .int a1)]) (hf : f_M_undo_b189 N rec189 a0 a1 w = some (r, wz)) (hR : gRep D cA B w H) (hS : va_S (gA B) s.heap H locs) : W p l e ({ frames := 1, cells := 0, slots := 0, locals := 40 } : Room) s m args below meth c H locs 0 0 (MQ below (gQi D cA B r wz) args s 0 0 (gA B)) (F0 m 189 ls []) := by
  obtain ⟨hx, hb, hml, hown, hts, hr, hlocks, hK, hBs⟩ := id C
  unfold f_M_undo_b189 at hf
  refine lv_iload_n hx hb d_M_undo_189 rfl (lv_at hl 1 rfl) ?_
  refine lv_bipush (v := 6) hx hb d_M_undo_190 (by decide) ?_
  refine lv_icmp_ge (tgt := 213) hx hb d_M_undo_192 (by decide) (fun hc => ?_) (fun hc => ?_)
  · have hf := cd_t hc hf
    refine lv_iconst (v := 0) hx hb d_M_undo_213 (by decide) ?_
    refine lv_istore_n (lv' := [(1, .int 0), (0, .ref (B + a0))]) hx hb d_M_undo_214 rfl hl (by decide) rfl (fun ls hl => ?_)
    exact c_M_undo_l215 C a0 0 w (lv_sub hl [1, 0] rfl) hf hR hS
  have hf := cd_f hc hf
  refine lv_aload_n hx hb d_M_undo_195 rfl (lv_at hl 0 rfl) ?_
  have ⟨h42, hf⟩ := gd_e hf
  have ⟨x43, h44, hf⟩ := rr_e hf
  refine g_getR hx hb hts hown hK hR fl_M_32 (fun _ => rfl) h42 h44 d_M_undo_196 ?_
  refine lv_iload_n hx hb d_M_undo_199 rfl (lv_at hl 1 rfl) ?_
  refine lv_aload_n hx hb d_M_undo_200 rfl (lv_at hl 0 rfl) ?_
  have ⟨x45, h46, hf⟩ := rr_e hf
  refine g_getR hx hb hts hown hK hR fl_M_193 (fun _ => rfl) h42 h46 d_M_undo_201 ?_
  refine lv_iload_n hx hb d_M_undo_204 rfl (lv_at hl 1 rfl) ?_
  have ⟨h47, hf⟩ := gd_e hf
  have ⟨h48, hf⟩ := gd_e hf
  refine g_iald hx hb hK hR h47 h48 d_M_undo_205 ?_
  refine g_nI hf (fun x49 hf => ?_)
  have ⟨h50, hf⟩ := gd_e hf
  have ⟨h51, hf⟩ := gd_e hf
  refine g_iast hx hb hK hR hS h50 h51 d_M_undo_206 (fun H locs hR hS => ?_)
  refine g_nW hf hR (fun w52 hf hR => ?_)
  refine g_iinc (lv' := fun x53 => [(1, .int x53), (0, .ref (B + a0))]) hf hx hb d_M_undo_207 hl (k := 1) rfl (by decide) (by decide) (fun _ => rfl) (fun x53 ls hf hl => ?_)
  refine lv_goto (tgt := 189) hx hb d_M_undo_210 (by decide) ?_
  exact ih189 a0 x53 w52 _ _ _ hf (lv_sub hl [1, 0] rfl) hR hS
theorem c_M_undo_l189 {r : Int32} {wz : gW} (C : gC p s m args meth c "RidCoppersModel" b_M_undo 2 (some .int) D cA oc B) (a0 : Nat) (a1 : Int32) (w : gW) {ls : Array Slot} {H : Heap} {locs : List Loc} (hl : lv_has ls 2 [(0, .ref (B + a0)), (1, .int a1)]) (hf : f_M_undo_l189 N a0 a1 w = some (r, wz)) (hR : gRep D cA B w H) (hS : va_S (gA B) s.heap H locs) : W p l e ({ frames := 1, cells := 0, slots := 0, locals := 40 } : Room) s m args below meth c H locs 0 0 (MQ below (gQi D cA B r wz) args s 0 0 (gA B)) (F0 m 189 ls []) := by
  unfold f_M_undo_l189 at hf
  suffices hh : ∀ n : Nat, ∀ (a0 : Nat) (a1 : Int32) (w : gW) (ls : Array Slot) (H : Heap) (locs : List Loc), itr (fun rec (q : Nat × Int32 × gW) => f_M_undo_b189 N rec q.1 q.2.1 q.2.2) n (a0, a1, w) = some (r, wz) → lv_has ls 2 [(0, .ref (B + a0)), (1, .int a1)] → gRep D cA B w H → va_S (gA B) s.heap H locs → W p l e ({ frames := 1, cells := 0, slots := 0, locals := 40 } : Room) s m args below meth c H locs 0 0 (MQ below (gQi D cA B r wz) args s 0 0 (gA B)) (F0 m 189 ls []) from hh N a0 a1 w ls H locs hf hl hR hS
  intro n
  induction n with
  | zero => intro a0 a1 w ls H locs hf; cases hf
  | succ n ihn =>
    intro a0 a1 w ls H locs hf hl hR hS
    exact c_M_undo_b189 (N := N) ihn C a0 a1 w hl ((itr_s _ _ _).symm.trans hf) hR hS
set_option maxRecDepth 20000 in
theorem c_M_undo_b163 {r : Int32} {wz : gW} {rec163 : Nat × Int32 × gW → Option (Int32 × gW)} (ih163 : ∀ (a0 : Nat) (a1 : Int32) (w : gW) (ls : Array Slot) (H : Heap) (locs : List Loc), rec163 (a0, a1, w) = some (r, wz) → lv_has ls 2 [(0, .ref (B + a0)), (1, .int a1)] → gRep D cA B w H → va_S (gA B) s.heap H locs → W p l e ({ frames := 1, cells := 0, slots := 0, locals := 40 } : Room) s m args below meth c H locs 0 0 (MQ below (gQi D cA B r wz) args s 0 0 (gA B)) (F0 m 163 ls [])) (C : gC p s m args meth c "RidCoppersModel" b_M_undo 2 (some .int) D cA oc B) (a0 : Nat) (a1 : Int32) (w : gW) {ls : Array Slot} {H : Heap} {locs : List Loc} (hl : lv_has ls 2 [(0, .ref (B + a0)), (1, .int a1)]) (hf : f_M_undo_b163 N rec163 a0 a1 w = some (r, wz)) (hR : gRep D cA B w H) (hS : va_S (gA B) s.heap H locs) : W p l e ({ frames := 1, cells := 0, slots := 0, locals := 40 } : Room) s m args below meth c H locs 0 0 (MQ below (gQi D cA B r wz) args s 0 0 (gA B)) (F0 m 163 ls []) := by
  obtain ⟨hx, hb, hml, hown, hts, hr, hlocks, hK, hBs⟩ := id C
  unfold f_M_undo_b163 at hf
  refine lv_iload_n hx hb d_M_undo_163 rfl (lv_at hl 1 rfl) ?_
  refine lv_bipush (v := 24) hx hb d_M_undo_164 (by decide) ?_
  refine lv_icmp_ge (tgt := 187) hx hb d_M_undo_166 (by decide) (fun hc => ?_) (fun hc => ?_)
  · have hf := cd_t hc hf
    refine lv_iconst (v := 0) hx hb d_M_undo_187 (by decide) ?_
    refine lv_istore_n (lv' := [(1, .int 0), (0, .ref (B + a0))]) hx hb d_M_undo_188 rfl hl (by decide) rfl (fun ls hl => ?_)
    exact c_M_undo_l189 C a0 0 w (lv_sub hl [1, 0] rfl) hf hR hS
  have hf := cd_f hc hf
  refine lv_aload_n hx hb d_M_undo_169 rfl (lv_at hl 0 rfl) ?_
  have ⟨h54, hf⟩ := gd_e hf
  have ⟨x55, h56, hf⟩ := rr_e hf
  refine g_getR hx hb hts hown hK hR fl_M_29 (fun _ => rfl) h54 h56 d_M_undo_170 ?_
  refine lv_iload_n hx hb d_M_undo_173 rfl (lv_at hl 1 rfl) ?_
  refine lv_aload_n hx hb d_M_undo_174 rfl (lv_at hl 0 rfl) ?_
  have ⟨x57, h58, hf⟩ := rr_e hf
  refine g_getR hx hb hts hown hK hR fl_M_190 (fun _ => rfl) h54 h58 d_M_undo_175 ?_
  refine lv_iload_n hx hb d_M_undo_178 rfl (lv_at hl 1 rfl) ?_
  have ⟨h59, hf⟩ := gd_e hf
  have ⟨h60, hf⟩ := gd_e hf
  refine g_iald hx hb hK hR h59 h60 d_M_undo_179 ?_
  refine g_nI hf (fun x61 hf => ?_)
  have ⟨h62, hf⟩ := gd_e hf
  have ⟨h63, hf⟩ := gd_e hf
  refine g_iast hx hb hK hR hS h62 h63 d_M_undo_180 (fun H locs hR hS => ?_)
  refine g_nW hf hR (fun w64 hf hR => ?_)
  refine g_iinc (lv' := fun x65 => [(1, .int x65), (0, .ref (B + a0))]) hf hx hb d_M_undo_181 hl (k := 1) rfl (by decide) (by decide) (fun _ => rfl) (fun x65 ls hf hl => ?_)
  refine lv_goto (tgt := 163) hx hb d_M_undo_184 (by decide) ?_
  exact ih163 a0 x65 w64 _ _ _ hf (lv_sub hl [1, 0] rfl) hR hS
theorem c_M_undo_l163 {r : Int32} {wz : gW} (C : gC p s m args meth c "RidCoppersModel" b_M_undo 2 (some .int) D cA oc B) (a0 : Nat) (a1 : Int32) (w : gW) {ls : Array Slot} {H : Heap} {locs : List Loc} (hl : lv_has ls 2 [(0, .ref (B + a0)), (1, .int a1)]) (hf : f_M_undo_l163 N a0 a1 w = some (r, wz)) (hR : gRep D cA B w H) (hS : va_S (gA B) s.heap H locs) : W p l e ({ frames := 1, cells := 0, slots := 0, locals := 40 } : Room) s m args below meth c H locs 0 0 (MQ below (gQi D cA B r wz) args s 0 0 (gA B)) (F0 m 163 ls []) := by
  unfold f_M_undo_l163 at hf
  suffices hh : ∀ n : Nat, ∀ (a0 : Nat) (a1 : Int32) (w : gW) (ls : Array Slot) (H : Heap) (locs : List Loc), itr (fun rec (q : Nat × Int32 × gW) => f_M_undo_b163 N rec q.1 q.2.1 q.2.2) n (a0, a1, w) = some (r, wz) → lv_has ls 2 [(0, .ref (B + a0)), (1, .int a1)] → gRep D cA B w H → va_S (gA B) s.heap H locs → W p l e ({ frames := 1, cells := 0, slots := 0, locals := 40 } : Room) s m args below meth c H locs 0 0 (MQ below (gQi D cA B r wz) args s 0 0 (gA B)) (F0 m 163 ls []) from hh N a0 a1 w ls H locs hf hl hR hS
  intro n
  induction n with
  | zero => intro a0 a1 w ls H locs hf; cases hf
  | succ n ihn =>
    intro a0 a1 w ls H locs hf hl hR hS
    exact c_M_undo_b163 (N := N) ihn C a0 a1 w hl ((itr_s _ _ _).symm.trans hf) hR hS
set_option maxRecDepth 20000 in
theorem c_M_undo_b137 {r : Int32} {wz : gW} {rec137 : Nat × Int32 × gW → Option (Int32 × gW)} (ih137 : ∀ (a0 : Nat) (a1 : Int32) (w : gW) (ls : Array Slot) (H : Heap) (locs : List Loc), rec137 (a0, a1, w) = some (r, wz) → lv_has ls 2 [(0, .ref (B + a0)), (1, .int a1)] → gRep D cA B w H → va_S (gA B) s.heap H locs → W p l e ({ frames := 1, cells := 0, slots := 0, locals := 40 } : Room) s m args below meth c H locs 0 0 (MQ below (gQi D cA B r wz) args s 0 0 (gA B)) (F0 m 137 ls [])) (C : gC p s m args meth c "RidCoppersModel" b_M_undo 2 (some .int) D cA oc B) (a0 : Nat) (a1 : Int32) (w : gW) {ls : Array Slot} {H : Heap} {locs : List Loc} (hl : lv_has ls 2 [(0, .ref (B + a0)), (1, .int a1)]) (hf : f_M_undo_b137 N rec137 a0 a1 w = some (r, wz)) (hR : gRep D cA B w H) (hS : va_S (gA B) s.heap H locs) : W p l e ({ frames := 1, cells := 0, slots := 0, locals := 40 } : Room) s m args below meth c H locs 0 0 (MQ below (gQi D cA B r wz) args s 0 0 (gA B)) (F0 m 137 ls []) := by
  obtain ⟨hx, hb, hml, hown, hts, hr, hlocks, hK, hBs⟩ := id C
  unfold f_M_undo_b137 at hf
  refine lv_iload_n hx hb d_M_undo_137 rfl (lv_at hl 1 rfl) ?_
  refine lv_bipush (v := 16) hx hb d_M_undo_138 (by decide) ?_
  refine lv_icmp_ge (tgt := 161) hx hb d_M_undo_140 (by decide) (fun hc => ?_) (fun hc => ?_)
  · have hf := cd_t hc hf
    refine lv_iconst (v := 0) hx hb d_M_undo_161 (by decide) ?_
    refine lv_istore_n (lv' := [(1, .int 0), (0, .ref (B + a0))]) hx hb d_M_undo_162 rfl hl (by decide) rfl (fun ls hl => ?_)
    exact c_M_undo_l163 C a0 0 w (lv_sub hl [1, 0] rfl) hf hR hS
  have hf := cd_f hc hf
  refine lv_aload_n hx hb d_M_undo_143 rfl (lv_at hl 0 rfl) ?_
  have ⟨h66, hf⟩ := gd_e hf
  have ⟨x67, h68, hf⟩ := rr_e hf
  refine g_getR hx hb hts hown hK hR fl_M_26 (fun _ => rfl) h66 h68 d_M_undo_144 ?_
  refine lv_iload_n hx hb d_M_undo_147 rfl (lv_at hl 1 rfl) ?_
  refine lv_aload_n hx hb d_M_undo_148 rfl (lv_at hl 0 rfl) ?_
  have ⟨x69, h70, hf⟩ := rr_e hf
  refine g_getR hx hb hts hown hK hR fl_M_187 (fun _ => rfl) h66 h70 d_M_undo_149 ?_
  refine lv_iload_n hx hb d_M_undo_152 rfl (lv_at hl 1 rfl) ?_
  have ⟨h71, hf⟩ := gd_e hf
  have ⟨h72, hf⟩ := gd_e hf
  refine g_iald hx hb hK hR h71 h72 d_M_undo_153 ?_
  refine g_nI hf (fun x73 hf => ?_)
  have ⟨h74, hf⟩ := gd_e hf
  have ⟨h75, hf⟩ := gd_e hf
  refine g_iast hx hb hK hR hS h74 h75 d_M_undo_154 (fun H locs hR hS => ?_)
  refine g_nW hf hR (fun w76 hf hR => ?_)
  refine g_iinc (lv' := fun x77 => [(1, .int x77), (0, .ref (B + a0))]) hf hx hb d_M_undo_155 hl (k := 1) rfl (by decide) (by decide) (fun _ => rfl) (fun x77 ls hf hl => ?_)
  refine lv_goto (tgt := 137) hx hb d_M_undo_158 (by decide) ?_
  exact ih137 a0 x77 w76 _ _ _ hf (lv_sub hl [1, 0] rfl) hR hS
theorem c_M_undo_l137 {r : Int32} {wz : gW} (C : gC p s m args meth c "RidCoppersModel" b_M_undo 2 (some .int) D cA oc B) (a0 : Nat) (a1 : Int32) (w : gW) {ls : Array Slot} {H : Heap} {locs : List Loc} (hl : lv_has ls 2 [(0, .ref (B + a0)), (1, .int a1)]) (hf : f_M_undo_l137 N a0 a1 w = some (r, wz)) (hR : gRep D cA B w H) (hS : va_S (gA B) s.heap H locs) : W p l e ({ frames := 1, cells := 0, slots := 0, locals := 40 } : Room) s m args below meth c H locs 0 0 (MQ below (gQi D cA B r wz) args s 0 0 (gA B)) (F0 m 137 ls []) := by
  unfold f_M_undo_l137 at hf
  suffices hh : ∀ n : Nat, ∀ (a0 : Nat) (a1 : Int32) (w : gW) (ls : Array Slot) (H : Heap) (locs : List Loc), itr (fun rec (q : Nat × Int32 × gW) => f_M_undo_b137 N rec q.1 q.2.1 q.2.2) n (a0, a1, w) = some (r, wz) → lv_has ls 2 [(0, .ref (B + a0)), (1, .int a1)] → gRep D cA B w H → va_S (gA B) s.heap H locs → W p l e ({ frames := 1, cells := 0, slots := 0, locals := 40 } : Room) s m args below meth c H locs 0 0 (MQ below (gQi D cA B r wz) args s 0 0 (gA B)) (F0 m 137 ls []) from hh N a0 a1 w ls H locs hf hl hR hS
  intro n
  induction n with
  | zero => intro a0 a1 w ls H locs hf; cases hf
  | succ n ihn =>
    intro a0 a1 w ls H locs hf hl hR hS
    exact c_M_undo_b137 (N := N) ihn C a0 a1 w hl ((itr_s _ _ _).symm.trans hf) hR hS
set_option maxRecDepth 20000 in
theorem c_M_undo_b52 {r : Int32} {wz : gW} {rec52 : Nat × Int32 × gW → Option (Int32 × gW)} (ih52 : ∀ (a0 : Nat) (a1 : Int32) (w : gW) (ls : Array Slot) (H : Heap) (locs : List Loc), rec52 (a0, a1, w) = some (r, wz) → lv_has ls 2 [(0, .ref (B + a0)), (1, .int a1)] → gRep D cA B w H → va_S (gA B) s.heap H locs → W p l e ({ frames := 1, cells := 0, slots := 0, locals := 40 } : Room) s m args below meth c H locs 0 0 (MQ below (gQi D cA B r wz) args s 0 0 (gA B)) (F0 m 52 ls [])) (C : gC p s m args meth c "RidCoppersModel" b_M_undo 2 (some .int) D cA oc B) (a0 : Nat) (a1 : Int32) (w : gW) {ls : Array Slot} {H : Heap} {locs : List Loc} (hl : lv_has ls 2 [(0, .ref (B + a0)), (1, .int a1)]) (hf : f_M_undo_b52 N rec52 a0 a1 w = some (r, wz)) (hR : gRep D cA B w H) (hS : va_S (gA B) s.heap H locs) : W p l e ({ frames := 1, cells := 0, slots := 0, locals := 40 } : Room) s m args below meth c H locs 0 0 (MQ below (gQi D cA B r wz) args s 0 0 (gA B)) (F0 m 52 ls []) := by
  obtain ⟨hx, hb, hml, hown, hts, hr, hlocks, hK, hBs⟩ := id C
  unfold f_M_undo_b52 at hf
  refine lv_iload_n hx hb d_M_undo_52 rfl (lv_at hl 1 rfl) ?_
  refine lv_iconst (v := 4) hx hb d_M_undo_53 (by decide) ?_
  refine lv_icmp_ge (tgt := 135) hx hb d_M_undo_54 (by decide) (fun hc => ?_) (fun hc => ?_)
  · have hf := cd_t hc hf
    refine lv_iconst (v := 0) hx hb d_M_undo_135 (by decide) ?_
    refine lv_istore_n (lv' := [(1, .int 0), (0, .ref (B + a0))]) hx hb d_M_undo_136 rfl hl (by decide) rfl (fun ls hl => ?_)
    exact c_M_undo_l137 C a0 0 w (lv_sub hl [1, 0] rfl) hf hR hS
  have hf := cd_f hc hf
  refine lv_aload_n hx hb d_M_undo_57 rfl (lv_at hl 0 rfl) ?_
  have ⟨h78, hf⟩ := gd_e hf
  have ⟨x79, h80, hf⟩ := rr_e hf
  refine g_getR hx hb hts hown hK hR fl_M_17 (fun _ => rfl) h78 h80 d_M_undo_58 ?_
  refine lv_iload_n hx hb d_M_undo_61 rfl (lv_at hl 1 rfl) ?_
  refine lv_aload_n hx hb d_M_undo_62 rfl (lv_at hl 0 rfl) ?_
  have ⟨x81, h82, hf⟩ := rr_e hf
  refine g_getR hx hb hts hown hK hR fl_M_178 (fun _ => rfl) h78 h82 d_M_undo_63 ?_
  refine lv_iload_n hx hb d_M_undo_66 rfl (lv_at hl 1 rfl) ?_
  have ⟨h83, hf⟩ := gd_e hf
  have ⟨h84, hf⟩ := gd_e hf
  refine g_iald hx hb hK hR h83 h84 d_M_undo_67 ?_
  refine g_nI hf (fun x85 hf => ?_)
  have ⟨h86, hf⟩ := gd_e hf
  have ⟨h87, hf⟩ := gd_e hf
  refine g_iast hx hb hK hR hS h86 h87 d_M_undo_68 (fun H locs hR hS => ?_)
  refine g_nW hf hR (fun w88 hf hR => ?_)
  refine lv_aload_n hx hb d_M_undo_69 rfl (lv_at hl 0 rfl) ?_
  have ⟨h89, hf⟩ := gd_e hf
  have ⟨x90, h91, hf⟩ := rr_e hf
  refine g_getR hx hb hts hown hK hR fl_M_20 (fun _ => rfl) h89 h91 d_M_undo_70 ?_
  refine lv_iload_n hx hb d_M_undo_73 rfl (lv_at hl 1 rfl) ?_
  refine lv_aload_n hx hb d_M_undo_74 rfl (lv_at hl 0 rfl) ?_
  have ⟨x92, h93, hf⟩ := rr_e hf
  refine g_getR hx hb hts hown hK hR fl_M_181 (fun _ => rfl) h89 h93 d_M_undo_75 ?_
  refine lv_iload_n hx hb d_M_undo_78 rfl (lv_at hl 1 rfl) ?_
  have ⟨h94, hf⟩ := gd_e hf
  have ⟨h95, hf⟩ := gd_e hf
  refine g_iald hx hb hK hR h94 h95 d_M_undo_79 ?_
  refine g_nI hf (fun x96 hf => ?_)
  have ⟨h97, hf⟩ := gd_e hf
  have ⟨h98, hf⟩ := gd_e hf
  refine g_iast hx hb hK hR hS h97 h98 d_M_undo_80 (fun H locs hR hS => ?_)
  refine g_nW hf hR (fun w99 hf hR => ?_)
  refine lv_aload_n hx hb d_M_undo_81 rfl (lv_at hl 0 rfl) ?_
  have ⟨h100, hf⟩ := gd_e hf
  have ⟨x101, h102, hf⟩ := rr_e hf
  refine g_getR hx hb hts hown hK hR fl_M_23 (fun _ => rfl) h100 h102 d_M_undo_82 ?_
  refine lv_iload_n hx hb d_M_undo_85 rfl (lv_at hl 1 rfl) ?_
  refine lv_aload_n hx hb d_M_undo_86 rfl (lv_at hl 0 rfl) ?_
  have ⟨x103, h104, hf⟩ := rr_e hf
  refine g_getR hx hb hts hown hK hR fl_M_184 (fun _ => rfl) h100 h104 d_M_undo_87 ?_
  refine lv_iload_n hx hb d_M_undo_90 rfl (lv_at hl 1 rfl) ?_
  have ⟨h105, hf⟩ := gd_e hf
  have ⟨h106, hf⟩ := gd_e hf
  refine g_iald hx hb hK hR h105 h106 d_M_undo_91 ?_
  refine g_nI hf (fun x107 hf => ?_)
  have ⟨h108, hf⟩ := gd_e hf
  have ⟨h109, hf⟩ := gd_e hf
  refine g_iast hx hb hK hR hS h108 h109 d_M_undo_92 (fun H locs hR hS => ?_)
  refine g_nW hf hR (fun w110 hf hR => ?_)
  refine lv_aload_n hx hb d_M_undo_93 rfl (lv_at hl 0 rfl) ?_
  have ⟨h111, hf⟩ := gd_e hf
  have ⟨x112, h113, hf⟩ := rr_e hf
  refine g_getR hx hb hts hown hK hR fl_M_138 (fun _ => rfl) h111 h113 d_M_undo_94 ?_
  refine lv_iload_n hx hb d_M_undo_97 rfl (lv_at hl 1 rfl) ?_
  refine lv_aload_n hx hb d_M_undo_98 rfl (lv_at hl 0 rfl) ?_
  have ⟨x114, h115, hf⟩ := rr_e hf
  refine g_getR hx hb hts hown hK hR fl_M_196 (fun _ => rfl) h111 h115 d_M_undo_99 ?_
  refine lv_iload_n hx hb d_M_undo_102 rfl (lv_at hl 1 rfl) ?_
  have ⟨h116, hf⟩ := gd_e hf
  have ⟨h117, hf⟩ := gd_e hf
  refine g_iald hx hb hK hR h116 h117 d_M_undo_103 ?_
  refine g_nI hf (fun x118 hf => ?_)
  have ⟨h119, hf⟩ := gd_e hf
  have ⟨h120, hf⟩ := gd_e hf
  refine g_iast hx hb hK hR hS h119 h120 d_M_undo_104 (fun H locs hR hS => ?_)
  refine g_nW hf hR (fun w121 hf hR => ?_)
  refine lv_aload_n hx hb d_M_undo_105 rfl (lv_at hl 0 rfl) ?_
  have ⟨h122, hf⟩ := gd_e hf
  have ⟨x123, h124, hf⟩ := rr_e hf
  refine g_getR hx hb hts hown hK hR fl_M_144 (fun _ => rfl) h122 h124 d_M_undo_106 ?_
  refine lv_iload_n hx hb d_M_undo_109 rfl (lv_at hl 1 rfl) ?_
  refine lv_aload_n hx hb d_M_undo_110 rfl (lv_at hl 0 rfl) ?_
  have ⟨x125, h126, hf⟩ := rr_e hf
  refine g_getR hx hb hts hown hK hR fl_M_199 (fun _ => rfl) h122 h126 d_M_undo_111 ?_
  refine lv_iload_n hx hb d_M_undo_114 rfl (lv_at hl 1 rfl) ?_
  have ⟨h127, hf⟩ := gd_e hf
  have ⟨h128, hf⟩ := gd_e hf
  refine g_iald hx hb hK hR h127 h128 d_M_undo_115 ?_
  refine g_nI hf (fun x129 hf => ?_)
  have ⟨h130, hf⟩ := gd_e hf
  have ⟨h131, hf⟩ := gd_e hf
  refine g_iast hx hb hK hR hS h130 h131 d_M_undo_116 (fun H locs hR hS => ?_)
  refine g_nW hf hR (fun w132 hf hR => ?_)
  refine lv_aload_n hx hb d_M_undo_117 rfl (lv_at hl 0 rfl) ?_
  have ⟨h133, hf⟩ := gd_e hf
  have ⟨x134, h135, hf⟩ := rr_e hf
  refine g_getR hx hb hts hown hK hR fl_M_147 (fun _ => rfl) h133 h135 d_M_undo_118 ?_
  refine lv_iload_n hx hb d_M_undo_121 rfl (lv_at hl 1 rfl) ?_
  refine lv_aload_n hx hb d_M_undo_122 rfl (lv_at hl 0 rfl) ?_
  have ⟨x136, h137, hf⟩ := rr_e hf
  refine g_getR hx hb hts hown hK hR fl_M_202 (fun _ => rfl) h133 h137 d_M_undo_123 ?_
  refine lv_iload_n hx hb d_M_undo_126 rfl (lv_at hl 1 rfl) ?_
  have ⟨h138, hf⟩ := gd_e hf
  have ⟨h139, hf⟩ := gd_e hf
  refine g_iald hx hb hK hR h138 h139 d_M_undo_127 ?_
  refine g_nI hf (fun x140 hf => ?_)
  have ⟨h141, hf⟩ := gd_e hf
  have ⟨h142, hf⟩ := gd_e hf
  refine g_iast hx hb hK hR hS h141 h142 d_M_undo_128 (fun H locs hR hS => ?_)
  refine g_nW hf hR (fun w143 hf hR => ?_)
  refine g_iinc (lv' := fun x144 => [(1, .int x144), (0, .ref (B + a0))]) hf hx hb d_M_undo_129 hl (k := 1) rfl (by decide) (by decide) (fun _ => rfl) (fun x144 ls hf hl => ?_)
  refine lv_goto (tgt := 52) hx hb d_M_undo_132 (by decide) ?_
  exact ih52 a0 x144 w143 _ _ _ hf (lv_sub hl [1, 0] rfl) hR hS
theorem c_M_undo_l52 {r : Int32} {wz : gW} (C : gC p s m args meth c "RidCoppersModel" b_M_undo 2 (some .int) D cA oc B) (a0 : Nat) (a1 : Int32) (w : gW) {ls : Array Slot} {H : Heap} {locs : List Loc} (hl : lv_has ls 2 [(0, .ref (B + a0)), (1, .int a1)]) (hf : f_M_undo_l52 N a0 a1 w = some (r, wz)) (hR : gRep D cA B w H) (hS : va_S (gA B) s.heap H locs) : W p l e ({ frames := 1, cells := 0, slots := 0, locals := 40 } : Room) s m args below meth c H locs 0 0 (MQ below (gQi D cA B r wz) args s 0 0 (gA B)) (F0 m 52 ls []) := by
  unfold f_M_undo_l52 at hf
  suffices hh : ∀ n : Nat, ∀ (a0 : Nat) (a1 : Int32) (w : gW) (ls : Array Slot) (H : Heap) (locs : List Loc), itr (fun rec (q : Nat × Int32 × gW) => f_M_undo_b52 N rec q.1 q.2.1 q.2.2) n (a0, a1, w) = some (r, wz) → lv_has ls 2 [(0, .ref (B + a0)), (1, .int a1)] → gRep D cA B w H → va_S (gA B) s.heap H locs → W p l e ({ frames := 1, cells := 0, slots := 0, locals := 40 } : Room) s m args below meth c H locs 0 0 (MQ below (gQi D cA B r wz) args s 0 0 (gA B)) (F0 m 52 ls []) from hh N a0 a1 w ls H locs hf hl hR hS
  intro n
  induction n with
  | zero => intro a0 a1 w ls H locs hf; cases hf
  | succ n ihn =>
    intro a0 a1 w ls H locs hf hl hR hS
    exact c_M_undo_b52 (N := N) ihn C a0 a1 w hl ((itr_s _ _ _).symm.trans hf) hR hS
set_option maxRecDepth 20000 in
theorem c_M_undo_b0 {r : Int32} {wz : gW} (C : gC p s m args meth c "RidCoppersModel" b_M_undo 2 (some .int) D cA oc B) (a0 : Nat) (w : gW) {ls : Array Slot} {H : Heap} {locs : List Loc} (hl : lv_has ls 2 [(0, .ref (B + a0))]) (hf : f_M_undo_b0 N a0 w = some (r, wz)) (hR : gRep D cA B w H) (hS : va_S (gA B) s.heap H locs) : W p l e ({ frames := 1, cells := 0, slots := 0, locals := 40 } : Room) s m args below meth c H locs 0 0 (MQ below (gQi D cA B r wz) args s 0 0 (gA B)) (F0 m 0 ls []) := by
  obtain ⟨hx, hb, hml, hown, hts, hr, hlocks, hK, hBs⟩ := id C
  unfold f_M_undo_b0 at hf
  refine lv_aload_n hx hb d_M_undo_0 rfl (lv_at hl 0 rfl) ?_
  have ⟨h1, hf⟩ := gd_e hf
  refine g_getI hx hb hts hown hK hR fl_M_159 (fun _ => rfl) h1 d_M_undo_1 ?_
  refine g_nI hf (fun x2 hf => ?_)
  refine lv_if_ne (tgt := 10) hx hb d_M_undo_4 (by decide) (fun hc => ?_) (fun hc => ?_)
  · have hf := cd_f hc hf
    refine lv_aload_n hx hb d_M_undo_10 rfl (lv_at hl 0 rfl) ?_
    refine lv_aload_n hx hb d_M_undo_11 rfl (lv_at hl 0 rfl) ?_
    refine g_getI hx hb hts hown hK hR fl_M_163 (fun _ => rfl) h1 d_M_undo_12 ?_
    refine g_nI hf (fun x3 hf => ?_)
    refine g_putI hx hb hts hown hK hR hS pf_M_38 (fun _ => rfl) rfl rfl h1 d_M_undo_15 (fun H locs hR hS => ?_)
    refine g_nW hf hR (fun w4 hf hR => ?_)
    refine lv_aload_n hx hb d_M_undo_18 rfl (lv_at hl 0 rfl) ?_
    refine lv_aload_n hx hb d_M_undo_19 rfl (lv_at hl 0 rfl) ?_
    have ⟨h5, hf⟩ := gd_e hf
    refine g_getI hx hb hts hown hK hR fl_M_166 (fun _ => rfl) h5 d_M_undo_20 ?_
    refine g_nI hf (fun x6 hf => ?_)
    refine g_putI hx hb hts hown hK hR hS pf_M_7 (fun _ => rfl) rfl rfl h5 d_M_undo_23 (fun H locs hR hS => ?_)
    refine g_nW hf hR (fun w7 hf hR => ?_)
    refine lv_aload_n hx hb d_M_undo_26 rfl (lv_at hl 0 rfl) ?_
    refine lv_aload_n hx hb d_M_undo_27 rfl (lv_at hl 0 rfl) ?_
    have ⟨h8, hf⟩ := gd_e hf
    refine g_getI hx hb hts hown hK hR fl_M_169 (fun _ => rfl) h8 d_M_undo_28 ?_
    refine g_nI hf (fun x9 hf => ?_)
    refine g_putI hx hb hts hown hK hR hS pf_M_135 (fun _ => rfl) rfl rfl h8 d_M_undo_31 (fun H locs hR hS => ?_)
    refine g_nW hf hR (fun w10 hf hR => ?_)
    refine lv_aload_n hx hb d_M_undo_34 rfl (lv_at hl 0 rfl) ?_
    refine lv_aload_n hx hb d_M_undo_35 rfl (lv_at hl 0 rfl) ?_
    have ⟨h11, hf⟩ := gd_e hf
    refine g_getI hx hb hts hown hK hR fl_M_172 (fun _ => rfl) h11 d_M_undo_36 ?_
    refine g_nI hf (fun x12 hf => ?_)
    refine g_putI hx hb hts hown hK hR hS pf_M_141 (fun _ => rfl) rfl rfl h11 d_M_undo_39 (fun H locs hR hS => ?_)
    refine g_nW hf hR (fun w13 hf hR => ?_)
    refine lv_aload_n hx hb d_M_undo_42 rfl (lv_at hl 0 rfl) ?_
    refine lv_aload_n hx hb d_M_undo_43 rfl (lv_at hl 0 rfl) ?_
    have ⟨h14, hf⟩ := gd_e hf
    refine g_getI hx hb hts hown hK hR fl_M_175 (fun _ => rfl) h14 d_M_undo_44 ?_
    refine g_nI hf (fun x15 hf => ?_)
    refine g_putI hx hb hts hown hK hR hS pf_M_150 (fun _ => rfl) rfl rfl h14 d_M_undo_47 (fun H locs hR hS => ?_)
    refine g_nW hf hR (fun w16 hf hR => ?_)
    refine lv_iconst (v := 0) hx hb d_M_undo_50 (by decide) ?_
    refine lv_istore_n (lv' := [(1, .int 0), (0, .ref (B + a0))]) hx hb d_M_undo_51 rfl hl (by decide) rfl (fun ls hl => ?_)
    exact c_M_undo_l52 C a0 0 w16 (lv_sub hl [1, 0] rfl) hf hR hS
  have hf := cd_t hc hf
  refine lv_bipush (v := (-3)) hx hb d_M_undo_7 (by decide) ?_
  exact g_iret hx hb hr hlocks hR hS hf rfl d_M_undo_9
theorem c_M_undo (l : Launch) (D : va_G) (cA : Nat → ClassId) (oc : gO) (B N : Nat) (a0 : Nat) (w : gW) {wz : gW} {r : Int32} (hf : f_M_undo N a0 w = some (r, wz)) : Met l y_M_undo (Cond.code y_M_undo b_M_undo 2 (some .int) :: lw_good) ({ frames := 1, cells := 0, slots := 0, locals := 40 } : Room) (gPre D cA oc B [.ref (B + a0)] w) (gQi D cA B r wz) 0 0 (gA B) := by
  refine Met.ofW (cc := b_M_undo) (maxL := 2) (ret := (some .int)) (by decide +kernel) rfl ?_
  intro p e s m args below meth c s₁ Bd hml hv
  obtain ⟨hargs, C, hR⟩ := gC.enter (l := l) rfl Bd hml hv
  subst hargs
  have hl := lv_entry ([.ref (B + a0)]) (n := 2) (Nat.le_of_ble_eq_true rfl)
  rw [lg_entry_eq]
  generalize (lg_sl ([.ref (B + a0)]) ++ List.replicate (2 - (lg_sl ([.ref (B + a0)])).length) Slot.unset).toArray = ls at hl ⊢
  have hl : lv_has ls 2 [(0, .ref (B + a0))] := hl
  exact c_M_undo_b0 C a0 w (lv_sub hl [0] rfl) hf hR va_S.rf
theorem d_M_body_0 : decode b_M_body 0 = .ok (.aload_n 0, 1) := by decide +kernel
theorem d_M_body_1 : decode b_M_body 1 = .ok (.getfield 211, 3) := by decide +kernel
theorem d_M_body_4 : decode b_M_body 4 = .ok (.bipush 20, 2) := by decide +kernel
theorem d_M_body_6 : decode b_M_body 6 = .ok (.if_icmp .ge 13, 3) := by decide +kernel
theorem d_M_body_9 : decode b_M_body 9 = .ok (.aload_n 0, 1) := by decide +kernel
theorem d_M_body_10 : decode b_M_body 10 = .ok (.getfield 214, 3) := by decide +kernel
theorem d_M_body_13 : decode b_M_body 13 = .ok (.aload_n 0, 1) := by decide +kernel
theorem d_M_body_14 : decode b_M_body 14 = .ok (.getfield 211, 3) := by decide +kernel
theorem d_M_body_17 : decode b_M_body 17 = .ok (.iload_n 1, 1) := by decide +kernel
theorem d_M_body_18 : decode b_M_body 18 = .ok (.iastore, 1) := by decide +kernel
theorem d_M_body_19 : decode b_M_body 19 = .ok (.aload_n 0, 1) := by decide +kernel
theorem d_M_body_20 : decode b_M_body 20 = .ok (.dup, 1) := by decide +kernel
theorem d_M_body_21 : decode b_M_body 21 = .ok (.getfield 211, 3) := by decide +kernel
theorem d_M_body_24 : decode b_M_body 24 = .ok (.iconst 1, 1) := by decide +kernel
theorem d_M_body_25 : decode b_M_body 25 = .ok (.iadd, 1) := by decide +kernel
theorem d_M_body_26 : decode b_M_body 26 = .ok (.putfield 211, 3) := by decide +kernel
theorem d_M_body_29 : decode b_M_body 29 = .ok (.return_, 1) := by decide +kernel
set_option maxRecDepth 20000 in
theorem c_M_body_b19 {r : Unit} {wz : gW} (C : gC p s m args meth c "RidCoppersModel" b_M_body 2 none D cA oc B) (a0 : Nat) (w : gW) {ls : Array Slot} {H : Heap} {locs : List Loc} (hl : lv_has ls 2 [(0, .ref (B + a0))]) (hf : f_M_body_b19 N a0 w = some (r, wz)) (hR : gRep D cA B w H) (hS : va_S (gA B) s.heap H locs) : W p l e ({ frames := 1, cells := 0, slots := 0, locals := 40 } : Room) s m args below meth c H locs 0 0 (MQ below (gQv D cA B r wz) args s 0 0 (gA B)) (F0 m 19 ls []) := by
  obtain ⟨hx, hb, hml, hown, hts, hr, hlocks, hK, hBs⟩ := id C
  unfold f_M_body_b19 at hf
  refine lv_aload_n hx hb d_M_body_19 rfl (lv_at hl 0 rfl) ?_
  refine lv_dup hx hb d_M_body_20 rfl ?_
  have ⟨h3, hf⟩ := gd_e hf
  refine g_getI hx hb hts hown hK hR fl_M_211 (fun _ => rfl) h3 d_M_body_21 ?_
  refine g_nI hf (fun x4 hf => ?_)
  refine lv_iconst (v := 1) hx hb d_M_body_24 (by decide) ?_
  refine lv_iadd hx hb d_M_body_25 ?_
  refine g_nI hf (fun x5 hf => ?_)
  refine g_putI hx hb hts hown hK hR hS pf_M_211 (fun _ => rfl) rfl rfl h3 d_M_body_26 (fun H locs hR hS => ?_)
  refine g_nW hf hR (fun w6 hf hR => ?_)
  exact g_vret hx hb hr hlocks hR hS hf d_M_body_29
set_option maxRecDepth 20000 in
theorem c_M_body_b0 {r : Unit} {wz : gW} (C : gC p s m args meth c "RidCoppersModel" b_M_body 2 none D cA oc B) (a0 : Nat) (a1 : Int32) (w : gW) {ls : Array Slot} {H : Heap} {locs : List Loc} (hl : lv_has ls 2 [(0, .ref (B + a0)), (1, .int a1)]) (hf : f_M_body_b0 N a0 a1 w = some (r, wz)) (hR : gRep D cA B w H) (hS : va_S (gA B) s.heap H locs) : W p l e ({ frames := 1, cells := 0, slots := 0, locals := 40 } : Room) s m args below meth c H locs 0 0 (MQ below (gQv D cA B r wz) args s 0 0 (gA B)) (F0 m 0 ls []) := by
  obtain ⟨hx, hb, hml, hown, hts, hr, hlocks, hK, hBs⟩ := id C
  unfold f_M_body_b0 at hf
  refine lv_aload_n hx hb d_M_body_0 rfl (lv_at hl 0 rfl) ?_
  have ⟨h1, hf⟩ := gd_e hf
  refine g_getI hx hb hts hown hK hR fl_M_211 (fun _ => rfl) h1 d_M_body_1 ?_
  refine g_nI hf (fun x2 hf => ?_)
  refine lv_bipush (v := 20) hx hb d_M_body_4 (by decide) ?_
  refine lv_icmp_ge (tgt := 19) hx hb d_M_body_6 (by decide) (fun hc => ?_) (fun hc => ?_)
  · have hf := cd_t hc hf
    exact c_M_body_b19 C a0 w (lv_sub hl [0] rfl) hf hR hS
  have hf := cd_f hc hf
  refine lv_aload_n hx hb d_M_body_9 rfl (lv_at hl 0 rfl) ?_
  have ⟨x7, h8, hf⟩ := rr_e hf
  refine g_getR hx hb hts hown hK hR fl_M_214 (fun _ => rfl) h1 h8 d_M_body_10 ?_
  refine lv_aload_n hx hb d_M_body_13 rfl (lv_at hl 0 rfl) ?_
  refine g_getI hx hb hts hown hK hR fl_M_211 (fun _ => rfl) h1 d_M_body_14 ?_
  refine g_nI hf (fun x9 hf => ?_)
  refine lv_iload_n hx hb d_M_body_17 rfl (lv_at hl 1 rfl) ?_
  have ⟨h10, hf⟩ := gd_e hf
  have ⟨h11, hf⟩ := gd_e hf
  refine g_iast hx hb hK hR hS h10 h11 d_M_body_18 (fun H locs hR hS => ?_)
  refine g_nW hf hR (fun w12 hf hR => ?_)
  exact c_M_body_b19 C a0 w12 (lv_sub hl [0] rfl) hf hR hS
theorem c_M_body (l : Launch) (D : va_G) (cA : Nat → ClassId) (oc : gO) (B N : Nat) (a0 : Nat) (a1 : Int32) (w : gW) {wz : gW} {r : Unit} (hf : f_M_body N a0 a1 w = some (r, wz)) : Met l y_M_body (Cond.code y_M_body b_M_body 2 none :: lw_good) ({ frames := 1, cells := 0, slots := 0, locals := 40 } : Room) (gPre D cA oc B [.ref (B + a0), .int a1] w) (gQv D cA B r wz) 0 0 (gA B) := by
  refine Met.ofW (cc := b_M_body) (maxL := 2) (ret := none) (by decide +kernel) rfl ?_
  intro p e s m args below meth c s₁ Bd hml hv
  obtain ⟨hargs, C, hR⟩ := gC.enter (l := l) rfl Bd hml hv
  subst hargs
  have hl := lv_entry ([.ref (B + a0), .int a1]) (n := 2) (Nat.le_of_ble_eq_true rfl)
  rw [lg_entry_eq]
  generalize (lg_sl ([.ref (B + a0), .int a1]) ++ List.replicate (2 - (lg_sl ([.ref (B + a0), .int a1])).length) Slot.unset).toArray = ls at hl ⊢
  have hl : lv_has ls 2 [(0, .ref (B + a0)), (1, .int a1)] := hl
  exact c_M_body_b0 C a0 a1 w (lv_sub hl [0, 1] rfl) hf hR va_S.rf
theorem d_M_payerCounts_0 : decode b_M_payerCounts 0 = .ok (.aload_n 0, 1) := by decide +kernel
theorem d_M_payerCounts_1 : decode b_M_payerCounts 1 = .ok (.bipush 10, 2) := by decide +kernel
theorem d_M_payerCounts_3 : decode b_M_payerCounts 3 = .ok (.invokevirtual 386, 3) := by decide +kernel
theorem d_M_payerCounts_6 : decode b_M_payerCounts 6 = .ok (.iload_n 2, 1) := by decide +kernel
theorem d_M_payerCounts_7 : decode b_M_payerCounts 7 = .ok (.iload_n 1, 1) := by decide +kernel
theorem d_M_payerCounts_8 : decode b_M_payerCounts 8 = .ok (.iadd, 1) := by decide +kernel
theorem d_M_payerCounts_9 : decode b_M_payerCounts 9 = .ok (.ireturn, 1) := by decide +kernel
set_option maxRecDepth 20000 in
theorem c_M_payerCounts_b0 {r : Int32} {wz : gW} (C : gC p s m args meth c "RidCoppersModel" b_M_payerCounts 3 (some .int) D cA oc B) (a0 : Nat) (a1 : Int32) (a2 : Int32) (w : gW) {ls : Array Slot} {H : Heap} {locs : List Loc} (hl : lv_has ls 3 [(0, .ref (B + a0)), (1, .int a1), (2, .int a2)]) (hf : f_M_payerCounts_b0 N a0 a1 a2 w = some (r, wz)) (hR : gRep D cA B w H) (hS : va_S (gA B) s.heap H locs) : W p l e ({ frames := 2, cells := 0, slots := 0, locals := 61 } : Room) s m args below meth c H locs 0 0 (MQ below (gQi D cA B r wz) args s 0 0 (gA B)) (F0 m 0 ls []) := by
  obtain ⟨hx, hb, hml, hown, hts, hr, hlocks, hK, hBs⟩ := id C
  unfold f_M_payerCounts_b0 at hf
  refine lv_aload_n hx hb d_M_payerCounts_0 rfl (lv_at hl 0 rfl) ?_
  refine lv_bipush (v := 10) hx hb d_M_payerCounts_1 (by decide) ?_
  have ⟨h4, hf⟩ := gd_e hf
  have ⟨x1, w2, h3, hf⟩ := kl_e hf
  refine g_kv0 (g_rV (As := [.int 10]) (rest := []) hx hb hml hown hts hK hR hS (c_M_body l D cA oc B N a0 10 w h3) I_M_body m_1511 mp_75 (gRecv hK hR (ci := 12) rfl h4) rfl rfl (Nat.le_of_ble_eq_true rfl) hl.1 ⟨Nat.le_of_ble_eq_true rfl, Nat.le_of_ble_eq_true rfl⟩ ⟨Nat.le_of_ble_eq_true rfl, Nat.le_of_ble_eq_true rfl⟩ d_M_payerCounts_3) hS (fun H locs hR hS => ?_)
  refine lv_iload_n hx hb d_M_payerCounts_6 rfl (lv_at hl 2 rfl) ?_
  refine lv_iload_n hx hb d_M_payerCounts_7 rfl (lv_at hl 1 rfl) ?_
  refine lv_iadd hx hb d_M_payerCounts_8 ?_
  refine g_nI hf (fun x5 hf => ?_)
  exact g_iret hx hb hr hlocks hR hS hf rfl d_M_payerCounts_9
theorem c_M_payerCounts (l : Launch) (D : va_G) (cA : Nat → ClassId) (oc : gO) (B N : Nat) (a0 : Nat) (a1 : Int32) (a2 : Int32) (w : gW) {wz : gW} {r : Int32} (hf : f_M_payerCounts N a0 a1 a2 w = some (r, wz)) : Met l y_M_payerCounts (Cond.code y_M_payerCounts b_M_payerCounts 3 (some .int) :: lw_good) ({ frames := 2, cells := 0, slots := 0, locals := 61 } : Room) (gPre D cA oc B [.ref (B + a0), .int a1, .int a2] w) (gQi D cA B r wz) 0 0 (gA B) := by
  refine Met.ofW (cc := b_M_payerCounts) (maxL := 3) (ret := (some .int)) (by decide +kernel) rfl ?_
  intro p e s m args below meth c s₁ Bd hml hv
  obtain ⟨hargs, C, hR⟩ := gC.enter (l := l) rfl Bd hml hv
  subst hargs
  have hl := lv_entry ([.ref (B + a0), .int a1, .int a2]) (n := 3) (Nat.le_of_ble_eq_true rfl)
  rw [lg_entry_eq]
  generalize (lg_sl ([.ref (B + a0), .int a1, .int a2]) ++ List.replicate (3 - (lg_sl ([.ref (B + a0), .int a1, .int a2])).length) Slot.unset).toArray = ls at hl ⊢
  have hl : lv_has ls 3 [(0, .ref (B + a0)), (1, .int a1), (2, .int a2)] := hl
  exact c_M_payerCounts_b0 C a0 a1 a2 w (lv_sub hl [0, 1, 2] rfl) hf hR va_S.rf
theorem d_M_countsAct_0 : decode b_M_countsAct 0 = .ok (.aload_n 0, 1) := by decide +kernel
theorem d_M_countsAct_1 : decode b_M_countsAct 1 = .ok (.getfield 17, 3) := by decide +kernel
theorem d_M_countsAct_4 : decode b_M_countsAct 4 = .ok (.iload_n 1, 1) := by decide +kernel
theorem d_M_countsAct_5 : decode b_M_countsAct 5 = .ok (.iaload, 1) := by decide +kernel
theorem d_M_countsAct_6 : decode b_M_countsAct 6 = .ok (.tableswitch 83 2 6 #[34, 83, 49, 34, 63], 34) := by decide +kernel
theorem d_M_countsAct_40 : decode b_M_countsAct 40 = .ok (.aload_n 0, 1) := by decide +kernel
theorem d_M_countsAct_41 : decode b_M_countsAct 41 = .ok (.bipush 30, 2) := by decide +kernel
theorem d_M_countsAct_43 : decode b_M_countsAct 43 = .ok (.invokevirtual 386, 3) := by decide +kernel
theorem d_M_countsAct_46 : decode b_M_countsAct 46 = .ok (.aload_n 0, 1) := by decide +kernel
theorem d_M_countsAct_47 : decode b_M_countsAct 47 = .ok (.iload_n 1, 1) := by decide +kernel
theorem d_M_countsAct_48 : decode b_M_countsAct 48 = .ok (.iload_n 2, 1) := by decide +kernel
theorem d_M_countsAct_49 : decode b_M_countsAct 49 = .ok (.iconst 3, 1) := by decide +kernel
theorem d_M_countsAct_50 : decode b_M_countsAct 50 = .ok (.imul, 1) := by decide +kernel
theorem d_M_countsAct_51 : decode b_M_countsAct 51 = .ok (.invokevirtual 389, 3) := by decide +kernel
theorem d_M_countsAct_54 : decode b_M_countsAct 54 = .ok (.ireturn, 1) := by decide +kernel
theorem d_M_countsAct_55 : decode b_M_countsAct 55 = .ok (.aload_n 0, 1) := by decide +kernel
theorem d_M_countsAct_56 : decode b_M_countsAct 56 = .ok (.bipush 50, 2) := by decide +kernel
theorem d_M_countsAct_58 : decode b_M_countsAct 58 = .ok (.invokevirtual 386, 3) := by decide +kernel
theorem d_M_countsAct_61 : decode b_M_countsAct 61 = .ok (.aload_n 0, 1) := by decide +kernel
theorem d_M_countsAct_62 : decode b_M_countsAct 62 = .ok (.iload_n 1, 1) := by decide +kernel
theorem d_M_countsAct_63 : decode b_M_countsAct 63 = .ok (.iload_n 2, 1) := by decide +kernel
theorem d_M_countsAct_64 : decode b_M_countsAct 64 = .ok (.invokevirtual 389, 3) := by decide +kernel
theorem d_M_countsAct_67 : decode b_M_countsAct 67 = .ok (.ineg, 1) := by decide +kernel
theorem d_M_countsAct_68 : decode b_M_countsAct 68 = .ok (.ireturn, 1) := by decide +kernel
theorem d_M_countsAct_69 : decode b_M_countsAct 69 = .ok (.aload_n 0, 1) := by decide +kernel
theorem d_M_countsAct_70 : decode b_M_countsAct 70 = .ok (.bipush 71, 2) := by decide +kernel
theorem d_M_countsAct_72 : decode b_M_countsAct 72 = .ok (.invokevirtual 386, 3) := by decide +kernel
theorem d_M_countsAct_75 : decode b_M_countsAct 75 = .ok (.aload_n 0, 1) := by decide +kernel
theorem d_M_countsAct_76 : decode b_M_countsAct 76 = .ok (.iload_n 1, 1) := by decide +kernel
theorem d_M_countsAct_77 : decode b_M_countsAct 77 = .ok (.iload_n 2, 1) := by decide +kernel
theorem d_M_countsAct_78 : decode b_M_countsAct 78 = .ok (.invokevirtual 389, 3) := by decide +kernel
theorem d_M_countsAct_81 : decode b_M_countsAct 81 = .ok (.aload_n 0, 1) := by decide +kernel
theorem d_M_countsAct_82 : decode b_M_countsAct 82 = .ok (.getfield 20, 3) := by decide +kernel
theorem d_M_countsAct_85 : decode b_M_countsAct 85 = .ok (.iload_n 1, 1) := by decide +kernel
theorem d_M_countsAct_86 : decode b_M_countsAct 86 = .ok (.iaload, 1) := by decide +kernel
theorem d_M_countsAct_87 : decode b_M_countsAct 87 = .ok (.ixor, 1) := by decide +kernel
theorem d_M_countsAct_88 : decode b_M_countsAct 88 = .ok (.ireturn, 1) := by decide +kernel
theorem d_M_countsAct_89 : decode b_M_countsAct 89 = .ok (.aload_n 0, 1) := by decide +kernel
theorem d_M_countsAct_90 : decode b_M_countsAct 90 = .ok (.iload_n 1, 1) := by decide +kernel
theorem d_M_countsAct_91 : decode b_M_countsAct 91 = .ok (.iload_n 2, 1) := by decide +kernel
theorem d_M_countsAct_92 : decode b_M_countsAct 92 = .ok (.invokevirtual 389, 3) := by decide +kernel
theorem d_M_countsAct_95 : decode b_M_countsAct 95 = .ok (.ireturn, 1) := by decide +kernel
set_option maxRecDepth 20000 in
theorem c_M_countsAct_b40 {r : Int32} {wz : gW} (C : gC p s m args meth c "RidCoppersModel" b_M_countsAct 3 (some .int) D cA oc B) (a0 : Nat) (a1 : Int32) (a2 : Int32) (w : gW) {ls : Array Slot} {H : Heap} {locs : List Loc} (hl : lv_has ls 3 [(0, .ref (B + a0)), (1, .int a1), (2, .int a2)]) (hf : f_M_countsAct_b40 N a0 a1 a2 w = some (r, wz)) (hR : gRep D cA B w H) (hS : va_S (gA B) s.heap H locs) : W p l e ({ frames := 3, cells := 0, slots := 0, locals := 83 } : Room) s m args below meth c H locs 0 0 (MQ below (gQi D cA B r wz) args s 0 0 (gA B)) (F0 m 40 ls []) := by
  obtain ⟨hx, hb, hml, hown, hts, hr, hlocks, hK, hBs⟩ := id C
  unfold f_M_countsAct_b40 at hf
  refine lv_aload_n hx hb d_M_countsAct_40 rfl (lv_at hl 0 rfl) ?_
  refine lv_bipush (v := 30) hx hb d_M_countsAct_41 (by decide) ?_
  have ⟨h11, hf⟩ := gd_e hf
  have ⟨x8, w9, h10, hf⟩ := kl_e hf
  refine g_kv0 (g_rV (As := [.int 30]) (rest := []) hx hb hml hown hts hK hR hS (c_M_body l D cA oc B N a0 30 w h10) I_M_body m_1511 mp_75 (gRecv hK hR (ci := 12) rfl h11) rfl rfl (Nat.le_of_ble_eq_true rfl) hl.1 ⟨Nat.le_of_ble_eq_true rfl, Nat.le_of_ble_eq_true rfl⟩ ⟨Nat.le_of_ble_eq_true rfl, Nat.le_of_ble_eq_true rfl⟩ d_M_countsAct_43) hS (fun H locs hR hS => ?_)
  refine lv_aload_n hx hb d_M_countsAct_46 rfl (lv_at hl 0 rfl) ?_
  refine lv_iload_n hx hb d_M_countsAct_47 rfl (lv_at hl 1 rfl) ?_
  refine lv_iload_n hx hb d_M_countsAct_48 rfl (lv_at hl 2 rfl) ?_
  refine lv_iconst (v := 3) hx hb d_M_countsAct_49 (by decide) ?_
  refine lv_imul hx hb d_M_countsAct_50 ?_
  refine g_nI hf (fun x12 hf => ?_)
  have ⟨h16, hf⟩ := gd_e hf
  have ⟨x13, w14, h15, hf⟩ := kl_e hf
  refine g_ki0 (g_rV (As := [.int a1, .int x12]) (rest := []) hx hb hml hown hts hK hR hS (c_M_payerCounts l D cA oc B N a0 a1 x12 w9 h15) I_M_payerCounts m_1515 mp_76 (gRecv hK hR (ci := 12) rfl h16) rfl rfl (Nat.le_of_ble_eq_true rfl) hl.1 ⟨Nat.le_of_ble_eq_true rfl, Nat.le_of_ble_eq_true rfl⟩ ⟨Nat.le_of_ble_eq_true rfl, Nat.le_of_ble_eq_true rfl⟩ d_M_countsAct_51) hS (fun H locs hR hS => ?_)
  exact g_iret hx hb hr hlocks hR hS hf rfl d_M_countsAct_54
set_option maxRecDepth 20000 in
theorem c_M_countsAct_b89 {r : Int32} {wz : gW} (C : gC p s m args meth c "RidCoppersModel" b_M_countsAct 3 (some .int) D cA oc B) (a0 : Nat) (a1 : Int32) (a2 : Int32) (w : gW) {ls : Array Slot} {H : Heap} {locs : List Loc} (hl : lv_has ls 3 [(0, .ref (B + a0)), (1, .int a1), (2, .int a2)]) (hf : f_M_countsAct_b89 N a0 a1 a2 w = some (r, wz)) (hR : gRep D cA B w H) (hS : va_S (gA B) s.heap H locs) : W p l e ({ frames := 3, cells := 0, slots := 0, locals := 83 } : Room) s m args below meth c H locs 0 0 (MQ below (gQi D cA B r wz) args s 0 0 (gA B)) (F0 m 89 ls []) := by
  obtain ⟨hx, hb, hml, hown, hts, hr, hlocks, hK, hBs⟩ := id C
  unfold f_M_countsAct_b89 at hf
  refine lv_aload_n hx hb d_M_countsAct_89 rfl (lv_at hl 0 rfl) ?_
  refine lv_iload_n hx hb d_M_countsAct_90 rfl (lv_at hl 1 rfl) ?_
  refine lv_iload_n hx hb d_M_countsAct_91 rfl (lv_at hl 2 rfl) ?_
  have ⟨h45, hf⟩ := gd_e hf
  have ⟨x42, w43, h44, hf⟩ := kl_e hf
  refine g_ki0 (g_rV (As := [.int a1, .int a2]) (rest := []) hx hb hml hown hts hK hR hS (c_M_payerCounts l D cA oc B N a0 a1 a2 w h44) I_M_payerCounts m_1515 mp_76 (gRecv hK hR (ci := 12) rfl h45) rfl rfl (Nat.le_of_ble_eq_true rfl) hl.1 ⟨Nat.le_of_ble_eq_true rfl, Nat.le_of_ble_eq_true rfl⟩ ⟨Nat.le_of_ble_eq_true rfl, Nat.le_of_ble_eq_true rfl⟩ d_M_countsAct_92) hS (fun H locs hR hS => ?_)
  exact g_iret hx hb hr hlocks hR hS hf rfl d_M_countsAct_95
set_option maxRecDepth 20000 in
theorem c_M_countsAct_b0 {r : Int32} {wz : gW} (C : gC p s m args meth c "RidCoppersModel" b_M_countsAct 3 (some .int) D cA oc B) (a0 : Nat) (a1 : Int32) (a2 : Int32) (w : gW) {ls : Array Slot} {H : Heap} {locs : List Loc} (hl : lv_has ls 3 [(0, .ref (B + a0)), (1, .int a1), (2, .int a2)]) (hf : f_M_countsAct_b0 N a0 a1 a2 w = some (r, wz)) (hR : gRep D cA B w H) (hS : va_S (gA B) s.heap H locs) : W p l e ({ frames := 3, cells := 0, slots := 0, locals := 83 } : Room) s m args below meth c H locs 0 0 (MQ below (gQi D cA B r wz) args s 0 0 (gA B)) (F0 m 0 ls []) := by
  obtain ⟨hx, hb, hml, hown, hts, hr, hlocks, hK, hBs⟩ := id C
  unfold f_M_countsAct_b0 at hf
  refine lv_aload_n hx hb d_M_countsAct_0 rfl (lv_at hl 0 rfl) ?_
  have ⟨h1, hf⟩ := gd_e hf
  have ⟨x2, h3, hf⟩ := rr_e hf
  refine g_getR hx hb hts hown hK hR fl_M_17 (fun _ => rfl) h1 h3 d_M_countsAct_1 ?_
  refine lv_iload_n hx hb d_M_countsAct_4 rfl (lv_at hl 1 rfl) ?_
  have ⟨h4, hf⟩ := gd_e hf
  have ⟨h5, hf⟩ := gd_e hf
  refine g_iald hx hb hK hR h4 h5 d_M_countsAct_5 ?_
  refine g_nI hf (fun x6 hf => ?_)
  by_cases hc7 : x6 = 2
  · refine lv_tableIn (off := 34) (tgt := 40) hx hb d_M_countsAct_6 (by rw [hc7]; decide) (by rw [hc7]; decide) (by rw [hc7]; rfl) (by decide) ?_
    have hf := cd_t hc7 hf
    exact c_M_countsAct_b40 C a0 a1 a2 w (lv_sub hl [0, 1, 2] rfl) hf hR hS
  have hf := cd_f hc7 hf
  by_cases hc17 : x6 = 4
  · refine lv_tableIn (off := 49) (tgt := 55) hx hb d_M_countsAct_6 (by rw [hc17]; decide) (by rw [hc17]; decide) (by rw [hc17]; rfl) (by decide) ?_
    have hf := cd_t hc17 hf
    refine lv_aload_n hx hb d_M_countsAct_55 rfl (lv_at hl 0 rfl) ?_
    refine lv_bipush (v := 50) hx hb d_M_countsAct_56 (by decide) ?_
    have ⟨x18, w19, h20, hf⟩ := kl_e hf
    refine g_kv0 (g_rV (As := [.int 50]) (rest := []) hx hb hml hown hts hK hR hS (c_M_body l D cA oc B N a0 50 w h20) I_M_body m_1511 mp_75 (gRecv hK hR (ci := 12) rfl h1) rfl rfl (Nat.le_of_ble_eq_true rfl) hl.1 ⟨Nat.le_of_ble_eq_true rfl, Nat.le_of_ble_eq_true rfl⟩ ⟨Nat.le_of_ble_eq_true rfl, Nat.le_of_ble_eq_true rfl⟩ d_M_countsAct_58) hS (fun H locs hR hS => ?_)
    refine lv_aload_n hx hb d_M_countsAct_61 rfl (lv_at hl 0 rfl) ?_
    refine lv_iload_n hx hb d_M_countsAct_62 rfl (lv_at hl 1 rfl) ?_
    refine lv_iload_n hx hb d_M_countsAct_63 rfl (lv_at hl 2 rfl) ?_
    have ⟨h24, hf⟩ := gd_e hf
    have ⟨x21, w22, h23, hf⟩ := kl_e hf
    refine g_ki0 (g_rV (As := [.int a1, .int a2]) (rest := []) hx hb hml hown hts hK hR hS (c_M_payerCounts l D cA oc B N a0 a1 a2 w19 h23) I_M_payerCounts m_1515 mp_76 (gRecv hK hR (ci := 12) rfl h24) rfl rfl (Nat.le_of_ble_eq_true rfl) hl.1 ⟨Nat.le_of_ble_eq_true rfl, Nat.le_of_ble_eq_true rfl⟩ ⟨Nat.le_of_ble_eq_true rfl, Nat.le_of_ble_eq_true rfl⟩ d_M_countsAct_64) hS (fun H locs hR hS => ?_)
    refine lv_ineg hx hb d_M_countsAct_67 ?_
    refine g_nI hf (fun x25 hf => ?_)
    exact g_iret hx hb hr hlocks hR hS hf rfl d_M_countsAct_68
  have hf := cd_f hc17 hf
  by_cases hc26 : x6 = 5
  · refine lv_tableIn (off := 34) (tgt := 40) hx hb d_M_countsAct_6 (by rw [hc26]; decide) (by rw [hc26]; decide) (by rw [hc26]; rfl) (by decide) ?_
    have hf := cd_t hc26 hf
    exact c_M_countsAct_b40 C a0 a1 a2 w (lv_sub hl [0, 1, 2] rfl) hf hR hS
  have hf := cd_f hc26 hf
  by_cases hc27 : x6 = 6
  · refine lv_tableIn (off := 63) (tgt := 69) hx hb d_M_countsAct_6 (by rw [hc27]; decide) (by rw [hc27]; decide) (by rw [hc27]; rfl) (by decide) ?_
    have hf := cd_t hc27 hf
    refine lv_aload_n hx hb d_M_countsAct_69 rfl (lv_at hl 0 rfl) ?_
    refine lv_bipush (v := 71) hx hb d_M_countsAct_70 (by decide) ?_
    have ⟨x28, w29, h30, hf⟩ := kl_e hf
    refine g_kv0 (g_rV (As := [.int 71]) (rest := []) hx hb hml hown hts hK hR hS (c_M_body l D cA oc B N a0 71 w h30) I_M_body m_1511 mp_75 (gRecv hK hR (ci := 12) rfl h1) rfl rfl (Nat.le_of_ble_eq_true rfl) hl.1 ⟨Nat.le_of_ble_eq_true rfl, Nat.le_of_ble_eq_true rfl⟩ ⟨Nat.le_of_ble_eq_true rfl, Nat.le_of_ble_eq_true rfl⟩ d_M_countsAct_72) hS (fun H locs hR hS => ?_)
    refine lv_aload_n hx hb d_M_countsAct_75 rfl (lv_at hl 0 rfl) ?_
    refine lv_iload_n hx hb d_M_countsAct_76 rfl (lv_at hl 1 rfl) ?_
    refine lv_iload_n hx hb d_M_countsAct_77 rfl (lv_at hl 2 rfl) ?_
    have ⟨h34, hf⟩ := gd_e hf
    have ⟨x31, w32, h33, hf⟩ := kl_e hf
    refine g_ki0 (g_rV (As := [.int a1, .int a2]) (rest := []) hx hb hml hown hts hK hR hS (c_M_payerCounts l D cA oc B N a0 a1 a2 w29 h33) I_M_payerCounts m_1515 mp_76 (gRecv hK hR (ci := 12) rfl h34) rfl rfl (Nat.le_of_ble_eq_true rfl) hl.1 ⟨Nat.le_of_ble_eq_true rfl, Nat.le_of_ble_eq_true rfl⟩ ⟨Nat.le_of_ble_eq_true rfl, Nat.le_of_ble_eq_true rfl⟩ d_M_countsAct_78) hS (fun H locs hR hS => ?_)
    refine lv_aload_n hx hb d_M_countsAct_81 rfl (lv_at hl 0 rfl) ?_
    have ⟨h35, hf⟩ := gd_e hf
    have ⟨x36, h37, hf⟩ := rr_e hf
    refine g_getR hx hb hts hown hK hR fl_M_20 (fun _ => rfl) h35 h37 d_M_countsAct_82 ?_
    refine lv_iload_n hx hb d_M_countsAct_85 rfl (lv_at hl 1 rfl) ?_
    have ⟨h38, hf⟩ := gd_e hf
    have ⟨h39, hf⟩ := gd_e hf
    refine g_iald hx hb hK hR h38 h39 d_M_countsAct_86 ?_
    refine g_nI hf (fun x40 hf => ?_)
    refine lv_ixor hx hb d_M_countsAct_87 ?_
    refine g_nI hf (fun x41 hf => ?_)
    exact g_iret hx hb hr hlocks hR hS hf rfl d_M_countsAct_88
  have hf := cd_f hc27 hf
  by_cases hcm : x6 = 3
  · refine lv_tableIn (off := 83) (tgt := 89) hx hb d_M_countsAct_6 (by rw [hcm]; decide) (by rw [hcm]; decide) (by rw [hcm]; rfl) (by decide) ?_
    exact c_M_countsAct_b89 C a0 a1 a2 w (lv_sub hl [0, 1, 2] rfl) hf hR hS
  have hcm3 := hcm
  have hout : x6.toInt < 2 ∨ 6 < x6.toInt := by
    have := lv_neT (a := 2) hc7 rfl
    have := lv_neT (a := 4) hc17 rfl
    have := lv_neT (a := 5) hc26 rfl
    have := lv_neT (a := 6) hc27 rfl
    have := lv_neT (a := 3) hcm3 rfl
    omega
  refine lv_tableOut (tgt := 89) hx hb d_M_countsAct_6 hout (by decide) ?_
  exact c_M_countsAct_b89 C a0 a1 a2 w (lv_sub hl [0, 1, 2] rfl) hf hR hS
theorem c_M_countsAct (l : Launch) (D : va_G) (cA : Nat → ClassId) (oc : gO) (B N : Nat) (a0 : Nat) (a1 : Int32) (a2 : Int32) (w : gW) {wz : gW} {r : Int32} (hf : f_M_countsAct N a0 a1 a2 w = some (r, wz)) : Met l y_M_countsAct (Cond.code y_M_countsAct b_M_countsAct 3 (some .int) :: lw_good) ({ frames := 3, cells := 0, slots := 0, locals := 83 } : Room) (gPre D cA oc B [.ref (B + a0), .int a1, .int a2] w) (gQi D cA B r wz) 0 0 (gA B) := by
  refine Met.ofW (cc := b_M_countsAct) (maxL := 3) (ret := (some .int)) (by decide +kernel) rfl ?_
  intro p e s m args below meth c s₁ Bd hml hv
  obtain ⟨hargs, C, hR⟩ := gC.enter (l := l) rfl Bd hml hv
  subst hargs
  have hl := lv_entry ([.ref (B + a0), .int a1, .int a2]) (n := 3) (Nat.le_of_ble_eq_true rfl)
  rw [lg_entry_eq]
  generalize (lg_sl ([.ref (B + a0), .int a1, .int a2]) ++ List.replicate (3 - (lg_sl ([.ref (B + a0), .int a1, .int a2])).length) Slot.unset).toArray = ls at hl ⊢
  have hl : lv_has ls 3 [(0, .ref (B + a0)), (1, .int a1), (2, .int a2)] := hl
  exact c_M_countsAct_b0 C a0 a1 a2 w (lv_sub hl [0, 1, 2] rfl) hf hR va_S.rf
theorem d_M_payerHands_0 : decode b_M_payerHands 0 = .ok (.aload_n 0, 1) := by decide +kernel
theorem d_M_payerHands_1 : decode b_M_payerHands 1 = .ok (.bipush 11, 2) := by decide +kernel
theorem d_M_payerHands_3 : decode b_M_payerHands 3 = .ok (.invokevirtual 386, 3) := by decide +kernel
theorem d_M_payerHands_6 : decode b_M_payerHands 6 = .ok (.aload_n 0, 1) := by decide +kernel
theorem d_M_payerHands_7 : decode b_M_payerHands 7 = .ok (.iload_n 1, 1) := by decide +kernel
theorem d_M_payerHands_8 : decode b_M_payerHands 8 = .ok (.iload_n 2, 1) := by decide +kernel
theorem d_M_payerHands_9 : decode b_M_payerHands 9 = .ok (.invokevirtual 392, 3) := by decide +kernel
theorem d_M_payerHands_12 : decode b_M_payerHands 12 = .ok (.aload_n 0, 1) := by decide +kernel
theorem d_M_payerHands_13 : decode b_M_payerHands 13 = .ok (.getfield 20, 3) := by decide +kernel
theorem d_M_payerHands_16 : decode b_M_payerHands 16 = .ok (.iload_n 1, 1) := by decide +kernel
theorem d_M_payerHands_17 : decode b_M_payerHands 17 = .ok (.iaload, 1) := by decide +kernel
theorem d_M_payerHands_18 : decode b_M_payerHands 18 = .ok (.isub, 1) := by decide +kernel
theorem d_M_payerHands_19 : decode b_M_payerHands 19 = .ok (.ireturn, 1) := by decide +kernel
set_option maxRecDepth 20000 in
theorem c_M_payerHands_b0 {r : Int32} {wz : gW} (C : gC p s m args meth c "RidCoppersModel" b_M_payerHands 3 (some .int) D cA oc B) (a0 : Nat) (a1 : Int32) (a2 : Int32) (w : gW) {ls : Array Slot} {H : Heap} {locs : List Loc} (hl : lv_has ls 3 [(0, .ref (B + a0)), (1, .int a1), (2, .int a2)]) (hf : f_M_payerHands_b0 N a0 a1 a2 w = some (r, wz)) (hR : gRep D cA B w H) (hS : va_S (gA B) s.heap H locs) : W p l e ({ frames := 4, cells := 0, slots := 0, locals := 105 } : Room) s m args below meth c H locs 0 0 (MQ below (gQi D cA B r wz) args s 0 0 (gA B)) (F0 m 0 ls []) := by
  obtain ⟨hx, hb, hml, hown, hts, hr, hlocks, hK, hBs⟩ := id C
  unfold f_M_payerHands_b0 at hf
  refine lv_aload_n hx hb d_M_payerHands_0 rfl (lv_at hl 0 rfl) ?_
  refine lv_bipush (v := 11) hx hb d_M_payerHands_1 (by decide) ?_
  have ⟨h4, hf⟩ := gd_e hf
  have ⟨x1, w2, h3, hf⟩ := kl_e hf
  refine g_kv0 (g_rV (As := [.int 11]) (rest := []) hx hb hml hown hts hK hR hS (c_M_body l D cA oc B N a0 11 w h3) I_M_body m_1511 mp_75 (gRecv hK hR (ci := 12) rfl h4) rfl rfl (Nat.le_of_ble_eq_true rfl) hl.1 ⟨Nat.le_of_ble_eq_true rfl, Nat.le_of_ble_eq_true rfl⟩ ⟨Nat.le_of_ble_eq_true rfl, Nat.le_of_ble_eq_true rfl⟩ d_M_payerHands_3) hS (fun H locs hR hS => ?_)
  refine lv_aload_n hx hb d_M_payerHands_6 rfl (lv_at hl 0 rfl) ?_
  refine lv_iload_n hx hb d_M_payerHands_7 rfl (lv_at hl 1 rfl) ?_
  refine lv_iload_n hx hb d_M_payerHands_8 rfl (lv_at hl 2 rfl) ?_
  have ⟨h8, hf⟩ := gd_e hf
  have ⟨x5, w6, h7, hf⟩ := kl_e hf
  refine g_ki0 (g_rV (As := [.int a1, .int a2]) (rest := []) hx hb hml hown hts hK hR hS (c_M_countsAct l D cA oc B N a0 a1 a2 w2 h7) I_M_countsAct m_1507 mp_74 (gRecv hK hR (ci := 12) rfl h8) rfl rfl (Nat.le_of_ble_eq_true rfl) hl.1 ⟨Nat.le_of_ble_eq_true rfl, Nat.le_of_ble_eq_true rfl⟩ ⟨Nat.le_of_ble_eq_true rfl, Nat.le_of_ble_eq_true rfl⟩ d_M_payerHands_9) hS (fun H locs hR hS => ?_)
  refine lv_aload_n hx hb d_M_payerHands_12 rfl (lv_at hl 0 rfl) ?_
  have ⟨h9, hf⟩ := gd_e hf
  have ⟨x10, h11, hf⟩ := rr_e hf
  refine g_getR hx hb hts hown hK hR fl_M_20 (fun _ => rfl) h9 h11 d_M_payerHands_13 ?_
  refine lv_iload_n hx hb d_M_payerHands_16 rfl (lv_at hl 1 rfl) ?_
  have ⟨h12, hf⟩ := gd_e hf
  have ⟨h13, hf⟩ := gd_e hf
  refine g_iald hx hb hK hR h12 h13 d_M_payerHands_17 ?_
  refine g_nI hf (fun x14 hf => ?_)
  refine lv_isub hx hb d_M_payerHands_18 ?_
  refine g_nI hf (fun x15 hf => ?_)
  exact g_iret hx hb hr hlocks hR hS hf rfl d_M_payerHands_19
theorem c_M_payerHands (l : Launch) (D : va_G) (cA : Nat → ClassId) (oc : gO) (B N : Nat) (a0 : Nat) (a1 : Int32) (a2 : Int32) (w : gW) {wz : gW} {r : Int32} (hf : f_M_payerHands N a0 a1 a2 w = some (r, wz)) : Met l y_M_payerHands (Cond.code y_M_payerHands b_M_payerHands 3 (some .int) :: lw_good) ({ frames := 4, cells := 0, slots := 0, locals := 105 } : Room) (gPre D cA oc B [.ref (B + a0), .int a1, .int a2] w) (gQi D cA B r wz) 0 0 (gA B) := by
  refine Met.ofW (cc := b_M_payerHands) (maxL := 3) (ret := (some .int)) (by decide +kernel) rfl ?_
  intro p e s m args below meth c s₁ Bd hml hv
  obtain ⟨hargs, C, hR⟩ := gC.enter (l := l) rfl Bd hml hv
  subst hargs
  have hl := lv_entry ([.ref (B + a0), .int a1, .int a2]) (n := 3) (Nat.le_of_ble_eq_true rfl)
  rw [lg_entry_eq]
  generalize (lg_sl ([.ref (B + a0), .int a1, .int a2]) ++ List.replicate (3 - (lg_sl ([.ref (B + a0), .int a1, .int a2])).length) Slot.unset).toArray = ls at hl ⊢
  have hl : lv_has ls 3 [(0, .ref (B + a0)), (1, .int a1), (2, .int a2)] := hl
  exact c_M_payerHands_b0 C a0 a1 a2 w (lv_sub hl [0, 1, 2] rfl) hf hR va_S.rf
theorem d_M_exactHands_0 : decode b_M_exactHands 0 = .ok (.aload_n 0, 1) := by decide +kernel
theorem d_M_exactHands_1 : decode b_M_exactHands 1 = .ok (.bipush 20, 2) := by decide +kernel
theorem d_M_exactHands_3 : decode b_M_exactHands 3 = .ok (.invokevirtual 386, 3) := by decide +kernel
theorem d_M_exactHands_6 : decode b_M_exactHands 6 = .ok (.aload_n 0, 1) := by decide +kernel
theorem d_M_exactHands_7 : decode b_M_exactHands 7 = .ok (.iload_n 1, 1) := by decide +kernel
theorem d_M_exactHands_8 : decode b_M_exactHands 8 = .ok (.iload_n 2, 1) := by decide +kernel
theorem d_M_exactHands_9 : decode b_M_exactHands 9 = .ok (.invokevirtual 395, 3) := by decide +kernel
theorem d_M_exactHands_12 : decode b_M_exactHands 12 = .ok (.bipush 6, 2) := by decide +kernel
theorem d_M_exactHands_14 : decode b_M_exactHands 14 = .ok (.ixor, 1) := by decide +kernel
theorem d_M_exactHands_15 : decode b_M_exactHands 15 = .ok (.ireturn, 1) := by decide +kernel
set_option maxRecDepth 20000 in
theorem c_M_exactHands_b0 {r : Int32} {wz : gW} (C : gC p s m args meth c "RidCoppersModel" b_M_exactHands 3 (some .int) D cA oc B) (a0 : Nat) (a1 : Int32) (a2 : Int32) (w : gW) {ls : Array Slot} {H : Heap} {locs : List Loc} (hl : lv_has ls 3 [(0, .ref (B + a0)), (1, .int a1), (2, .int a2)]) (hf : f_M_exactHands_b0 N a0 a1 a2 w = some (r, wz)) (hR : gRep D cA B w H) (hS : va_S (gA B) s.heap H locs) : W p l e ({ frames := 5, cells := 0, slots := 0, locals := 127 } : Room) s m args below meth c H locs 0 0 (MQ below (gQi D cA B r wz) args s 0 0 (gA B)) (F0 m 0 ls []) := by
  obtain ⟨hx, hb, hml, hown, hts, hr, hlocks, hK, hBs⟩ := id C
  unfold f_M_exactHands_b0 at hf
  refine lv_aload_n hx hb d_M_exactHands_0 rfl (lv_at hl 0 rfl) ?_
  refine lv_bipush (v := 20) hx hb d_M_exactHands_1 (by decide) ?_
  have ⟨h4, hf⟩ := gd_e hf
  have ⟨x1, w2, h3, hf⟩ := kl_e hf
  refine g_kv0 (g_rV (As := [.int 20]) (rest := []) hx hb hml hown hts hK hR hS (c_M_body l D cA oc B N a0 20 w h3) I_M_body m_1511 mp_75 (gRecv hK hR (ci := 12) rfl h4) rfl rfl (Nat.le_of_ble_eq_true rfl) hl.1 ⟨Nat.le_of_ble_eq_true rfl, Nat.le_of_ble_eq_true rfl⟩ ⟨Nat.le_of_ble_eq_true rfl, Nat.le_of_ble_eq_true rfl⟩ d_M_exactHands_3) hS (fun H locs hR hS => ?_)
  refine lv_aload_n hx hb d_M_exactHands_6 rfl (lv_at hl 0 rfl) ?_
  refine lv_iload_n hx hb d_M_exactHands_7 rfl (lv_at hl 1 rfl) ?_
  refine lv_iload_n hx hb d_M_exactHands_8 rfl (lv_at hl 2 rfl) ?_
  have ⟨h8, hf⟩ := gd_e hf
  have ⟨x5, w6, h7, hf⟩ := kl_e hf
  refine g_ki0 (g_rV (As := [.int a1, .int a2]) (rest := []) hx hb hml hown hts hK hR hS (c_M_payerHands l D cA oc B N a0 a1 a2 w2 h7) I_M_payerHands m_1527 mp_79 (gRecv hK hR (ci := 12) rfl h8) rfl rfl (Nat.le_of_ble_eq_true rfl) hl.1 ⟨Nat.le_of_ble_eq_true rfl, Nat.le_of_ble_eq_true rfl⟩ ⟨Nat.le_of_ble_eq_true rfl, Nat.le_of_ble_eq_true rfl⟩ d_M_exactHands_9) hS (fun H locs hR hS => ?_)
  refine lv_bipush (v := 6) hx hb d_M_exactHands_12 (by decide) ?_
  refine lv_ixor hx hb d_M_exactHands_14 ?_
  refine g_nI hf (fun x9 hf => ?_)
  exact g_iret hx hb hr hlocks hR hS hf rfl d_M_exactHands_15
theorem c_M_exactHands (l : Launch) (D : va_G) (cA : Nat → ClassId) (oc : gO) (B N : Nat) (a0 : Nat) (a1 : Int32) (a2 : Int32) (w : gW) {wz : gW} {r : Int32} (hf : f_M_exactHands N a0 a1 a2 w = some (r, wz)) : Met l y_M_exactHands (Cond.code y_M_exactHands b_M_exactHands 3 (some .int) :: lw_good) ({ frames := 5, cells := 0, slots := 0, locals := 127 } : Room) (gPre D cA oc B [.ref (B + a0), .int a1, .int a2] w) (gQi D cA B r wz) 0 0 (gA B) := by
  refine Met.ofW (cc := b_M_exactHands) (maxL := 3) (ret := (some .int)) (by decide +kernel) rfl ?_
  intro p e s m args below meth c s₁ Bd hml hv
  obtain ⟨hargs, C, hR⟩ := gC.enter (l := l) rfl Bd hml hv
  subst hargs
  have hl := lv_entry ([.ref (B + a0), .int a1, .int a2]) (n := 3) (Nat.le_of_ble_eq_true rfl)
  rw [lg_entry_eq]
  generalize (lg_sl ([.ref (B + a0), .int a1, .int a2]) ++ List.replicate (3 - (lg_sl ([.ref (B + a0), .int a1, .int a2])).length) Slot.unset).toArray = ls at hl ⊢
  have hl : lv_has ls 3 [(0, .ref (B + a0)), (1, .int a1), (2, .int a2)] := hl
  exact c_M_exactHands_b0 C a0 a1 a2 w (lv_sub hl [0, 1, 2] rfl) hf hR va_S.rf
theorem d_M_handsAct_0 : decode b_M_handsAct 0 = .ok (.aload_n 0, 1) := by decide +kernel
theorem d_M_handsAct_1 : decode b_M_handsAct 1 = .ok (.getfield 17, 3) := by decide +kernel
theorem d_M_handsAct_4 : decode b_M_handsAct 4 = .ok (.iload_n 1, 1) := by decide +kernel
theorem d_M_handsAct_5 : decode b_M_handsAct 5 = .ok (.iaload, 1) := by decide +kernel
theorem d_M_handsAct_6 : decode b_M_handsAct 6 = .ok (.lookupswitch 78 #[(1, 34), (4, 41), (6, 56)], 34) := by decide +kernel
theorem d_M_handsAct_40 : decode b_M_handsAct 40 = .ok (.aload_n 0, 1) := by decide +kernel
theorem d_M_handsAct_41 : decode b_M_handsAct 41 = .ok (.iload_n 1, 1) := by decide +kernel
theorem d_M_handsAct_42 : decode b_M_handsAct 42 = .ok (.iload_n 2, 1) := by decide +kernel
theorem d_M_handsAct_43 : decode b_M_handsAct 43 = .ok (.invokevirtual 398, 3) := by decide +kernel
theorem d_M_handsAct_46 : decode b_M_handsAct 46 = .ok (.ireturn, 1) := by decide +kernel
theorem d_M_handsAct_47 : decode b_M_handsAct 47 = .ok (.aload_n 0, 1) := by decide +kernel
theorem d_M_handsAct_48 : decode b_M_handsAct 48 = .ok (.bipush 51, 2) := by decide +kernel
theorem d_M_handsAct_50 : decode b_M_handsAct 50 = .ok (.invokevirtual 386, 3) := by decide +kernel
theorem d_M_handsAct_53 : decode b_M_handsAct 53 = .ok (.aload_n 0, 1) := by decide +kernel
theorem d_M_handsAct_54 : decode b_M_handsAct 54 = .ok (.iload_n 1, 1) := by decide +kernel
theorem d_M_handsAct_55 : decode b_M_handsAct 55 = .ok (.iload_n 2, 1) := by decide +kernel
theorem d_M_handsAct_56 : decode b_M_handsAct 56 = .ok (.iconst 1, 1) := by decide +kernel
theorem d_M_handsAct_57 : decode b_M_handsAct 57 = .ok (.iadd, 1) := by decide +kernel
theorem d_M_handsAct_58 : decode b_M_handsAct 58 = .ok (.invokevirtual 398, 3) := by decide +kernel
theorem d_M_handsAct_61 : decode b_M_handsAct 61 = .ok (.ireturn, 1) := by decide +kernel
theorem d_M_handsAct_62 : decode b_M_handsAct 62 = .ok (.aload_n 0, 1) := by decide +kernel
theorem d_M_handsAct_63 : decode b_M_handsAct 63 = .ok (.bipush 70, 2) := by decide +kernel
theorem d_M_handsAct_65 : decode b_M_handsAct 65 = .ok (.invokevirtual 386, 3) := by decide +kernel
theorem d_M_handsAct_68 : decode b_M_handsAct 68 = .ok (.aload_n 0, 1) := by decide +kernel
theorem d_M_handsAct_69 : decode b_M_handsAct 69 = .ok (.iload_n 1, 1) := by decide +kernel
theorem d_M_handsAct_70 : decode b_M_handsAct 70 = .ok (.iload_n 2, 1) := by decide +kernel
theorem d_M_handsAct_71 : decode b_M_handsAct 71 = .ok (.invokevirtual 395, 3) := by decide +kernel
theorem d_M_handsAct_74 : decode b_M_handsAct 74 = .ok (.istore_n 3, 1) := by decide +kernel
theorem d_M_handsAct_75 : decode b_M_handsAct 75 = .ok (.iload_n 3, 1) := by decide +kernel
theorem d_M_handsAct_76 : decode b_M_handsAct 76 = .ok (.aload_n 0, 1) := by decide +kernel
theorem d_M_handsAct_77 : decode b_M_handsAct 77 = .ok (.iload_n 1, 1) := by decide +kernel
theorem d_M_handsAct_78 : decode b_M_handsAct 78 = .ok (.iconst 2, 1) := by decide +kernel
theorem d_M_handsAct_79 : decode b_M_handsAct 79 = .ok (.invokevirtual 389, 3) := by decide +kernel
theorem d_M_handsAct_82 : decode b_M_handsAct 82 = .ok (.iadd, 1) := by decide +kernel
theorem d_M_handsAct_83 : decode b_M_handsAct 83 = .ok (.ireturn, 1) := by decide +kernel
theorem d_M_handsAct_84 : decode b_M_handsAct 84 = .ok (.aload_n 0, 1) := by decide +kernel
theorem d_M_handsAct_85 : decode b_M_handsAct 85 = .ok (.iload_n 1, 1) := by decide +kernel
theorem d_M_handsAct_86 : decode b_M_handsAct 86 = .ok (.iload_n 2, 1) := by decide +kernel
theorem d_M_handsAct_87 : decode b_M_handsAct 87 = .ok (.invokevirtual 395, 3) := by decide +kernel
theorem d_M_handsAct_90 : decode b_M_handsAct 90 = .ok (.ireturn, 1) := by decide +kernel
set_option maxRecDepth 20000 in
theorem c_M_handsAct_b0 {r : Int32} {wz : gW} (C : gC p s m args meth c "RidCoppersModel" b_M_handsAct 4 (some .int) D cA oc B) (a0 : Nat) (a1 : Int32) (a2 : Int32) (w : gW) {ls : Array Slot} {H : Heap} {locs : List Loc} (hl : lv_has ls 4 [(0, .ref (B + a0)), (1, .int a1), (2, .int a2)]) (hf : f_M_handsAct_b0 N a0 a1 a2 w = some (r, wz)) (hR : gRep D cA B w H) (hS : va_S (gA B) s.heap H locs) : W p l e ({ frames := 6, cells := 0, slots := 0, locals := 149 } : Room) s m args below meth c H locs 0 0 (MQ below (gQi D cA B r wz) args s 0 0 (gA B)) (F0 m 0 ls []) := by
  obtain ⟨hx, hb, hml, hown, hts, hr, hlocks, hK, hBs⟩ := id C
  unfold f_M_handsAct_b0 at hf
  refine lv_aload_n hx hb d_M_handsAct_0 rfl (lv_at hl 0 rfl) ?_
  have ⟨h1, hf⟩ := gd_e hf
  have ⟨x2, h3, hf⟩ := rr_e hf
  refine g_getR hx hb hts hown hK hR fl_M_17 (fun _ => rfl) h1 h3 d_M_handsAct_1 ?_
  refine lv_iload_n hx hb d_M_handsAct_4 rfl (lv_at hl 1 rfl) ?_
  have ⟨h4, hf⟩ := gd_e hf
  have ⟨h5, hf⟩ := gd_e hf
  refine g_iald hx hb hK hR h4 h5 d_M_handsAct_5 ?_
  refine g_nI hf (fun x6 hf => ?_)
  by_cases hc7 : x6 = 1
  · refine lv_lookup (off := 34) (tgt := 40) hx hb d_M_handsAct_6 (by decide) (by rw [hc7]; decide) (by decide) ?_
    have hf := cd_t hc7 hf
    refine lv_aload_n hx hb d_M_handsAct_40 rfl (lv_at hl 0 rfl) ?_
    refine lv_iload_n hx hb d_M_handsAct_41 rfl (lv_at hl 1 rfl) ?_
    refine lv_iload_n hx hb d_M_handsAct_42 rfl (lv_at hl 2 rfl) ?_
    have ⟨x8, w9, h10, hf⟩ := kl_e hf
    refine g_ki0 (g_rV (As := [.int a1, .int a2]) (rest := []) hx hb hml hown hts hK hR hS (c_M_exactHands l D cA oc B N a0 a1 a2 w h10) I_M_exactHands m_1523 mp_78 (gRecv hK hR (ci := 12) rfl h1) rfl rfl (Nat.le_of_ble_eq_true rfl) hl.1 ⟨Nat.le_of_ble_eq_true rfl, Nat.le_of_ble_eq_true rfl⟩ ⟨Nat.le_of_ble_eq_true rfl, Nat.le_of_ble_eq_true rfl⟩ d_M_handsAct_43) hS (fun H locs hR hS => ?_)
    exact g_iret hx hb hr hlocks hR hS hf rfl d_M_handsAct_46
  have hf := cd_f hc7 hf
  by_cases hc11 : x6 = 4
  · refine lv_lookup (off := 41) (tgt := 47) hx hb d_M_handsAct_6 (by decide) (by rw [hc11]; decide) (by decide) ?_
    have hf := cd_t hc11 hf
    refine lv_aload_n hx hb d_M_handsAct_47 rfl (lv_at hl 0 rfl) ?_
    refine lv_bipush (v := 51) hx hb d_M_handsAct_48 (by decide) ?_
    have ⟨x12, w13, h14, hf⟩ := kl_e hf
    refine g_kv0 (g_rV (As := [.int 51]) (rest := []) hx hb hml hown hts hK hR hS (c_M_body l D cA oc B N a0 51 w h14) I_M_body m_1511 mp_75 (gRecv hK hR (ci := 12) rfl h1) rfl rfl (Nat.le_of_ble_eq_true rfl) hl.1 ⟨Nat.le_of_ble_eq_true rfl, Nat.le_of_ble_eq_true rfl⟩ ⟨Nat.le_of_ble_eq_true rfl, Nat.le_of_ble_eq_true rfl⟩ d_M_handsAct_50) hS (fun H locs hR hS => ?_)
    refine lv_aload_n hx hb d_M_handsAct_53 rfl (lv_at hl 0 rfl) ?_
    refine lv_iload_n hx hb d_M_handsAct_54 rfl (lv_at hl 1 rfl) ?_
    refine lv_iload_n hx hb d_M_handsAct_55 rfl (lv_at hl 2 rfl) ?_
    refine lv_iconst (v := 1) hx hb d_M_handsAct_56 (by decide) ?_
    refine lv_iadd hx hb d_M_handsAct_57 ?_
    refine g_nI hf (fun x15 hf => ?_)
    have ⟨h19, hf⟩ := gd_e hf
    have ⟨x16, w17, h18, hf⟩ := kl_e hf
    refine g_ki0 (g_rV (As := [.int a1, .int x15]) (rest := []) hx hb hml hown hts hK hR hS (c_M_exactHands l D cA oc B N a0 a1 x15 w13 h18) I_M_exactHands m_1523 mp_78 (gRecv hK hR (ci := 12) rfl h19) rfl rfl (Nat.le_of_ble_eq_true rfl) hl.1 ⟨Nat.le_of_ble_eq_true rfl, Nat.le_of_ble_eq_true rfl⟩ ⟨Nat.le_of_ble_eq_true rfl, Nat.le_of_ble_eq_true rfl⟩ d_M_handsAct_58) hS (fun H locs hR hS => ?_)
    exact g_iret hx hb hr hlocks hR hS hf rfl d_M_handsAct_61
  have hf := cd_f hc11 hf
  by_cases hc20 : x6 = 6
  · refine lv_lookup (off := 56) (tgt := 62) hx hb d_M_handsAct_6 (by decide) (by rw [hc20]; decide) (by decide) ?_
    have hf := cd_t hc20 hf
    refine lv_aload_n hx hb d_M_handsAct_62 rfl (lv_at hl 0 rfl) ?_
    refine lv_bipush (v := 70) hx hb d_M_handsAct_63 (by decide) ?_
    have ⟨x21, w22, h23, hf⟩ := kl_e hf
    refine g_kv0 (g_rV (As := [.int 70]) (rest := []) hx hb hml hown hts hK hR hS (c_M_body l D cA oc B N a0 70 w h23) I_M_body m_1511 mp_75 (gRecv hK hR (ci := 12) rfl h1) rfl rfl (Nat.le_of_ble_eq_true rfl) hl.1 ⟨Nat.le_of_ble_eq_true rfl, Nat.le_of_ble_eq_true rfl⟩ ⟨Nat.le_of_ble_eq_true rfl, Nat.le_of_ble_eq_true rfl⟩ d_M_handsAct_65) hS (fun H locs hR hS => ?_)
    refine lv_aload_n hx hb d_M_handsAct_68 rfl (lv_at hl 0 rfl) ?_
    refine lv_iload_n hx hb d_M_handsAct_69 rfl (lv_at hl 1 rfl) ?_
    refine lv_iload_n hx hb d_M_handsAct_70 rfl (lv_at hl 2 rfl) ?_
    have ⟨h27, hf⟩ := gd_e hf
    have ⟨x24, w25, h26, hf⟩ := kl_e hf
    refine g_ki0 (g_rV (As := [.int a1, .int a2]) (rest := []) hx hb hml hown hts hK hR hS (c_M_payerHands l D cA oc B N a0 a1 a2 w22 h26) I_M_payerHands m_1527 mp_79 (gRecv hK hR (ci := 12) rfl h27) rfl rfl (Nat.le_of_ble_eq_true rfl) hl.1 ⟨Nat.le_of_ble_eq_true rfl, Nat.le_of_ble_eq_true rfl⟩ ⟨Nat.le_of_ble_eq_true rfl, Nat.le_of_ble_eq_true rfl⟩ d_M_handsAct_71) hS (fun H locs hR hS => ?_)
    refine lv_istore_n (lv' := [(3, .int x24), (0, .ref (B + a0)), (1, .int a1), (2, .int a2)]) hx hb d_M_handsAct_74 rfl hl (by decide) rfl (fun ls hl => ?_)
    refine lv_iload_n hx hb d_M_handsAct_75 rfl (lv_at hl 0 rfl) ?_
    refine lv_aload_n hx hb d_M_handsAct_76 rfl (lv_at hl 1 rfl) ?_
    refine lv_iload_n hx hb d_M_handsAct_77 rfl (lv_at hl 2 rfl) ?_
    refine lv_iconst (v := 2) hx hb d_M_handsAct_78 (by decide) ?_
    have ⟨h31, hf⟩ := gd_e hf
    have ⟨x28, w29, h30, hf⟩ := kl_e hf
    refine g_ki0 (g_rV (As := [.int a1, .int 2]) (rest := [.int x24]) hx hb hml hown hts hK hR hS (c_M_payerCounts l D cA oc B N a0 a1 2 w25 h30) I_M_payerCounts m_1515 mp_76 (gRecv hK hR (ci := 12) rfl h31) rfl rfl (Nat.le_of_ble_eq_true rfl) hl.1 ⟨Nat.le_of_ble_eq_true rfl, Nat.le_of_ble_eq_true rfl⟩ ⟨Nat.le_of_ble_eq_true rfl, Nat.le_of_ble_eq_true rfl⟩ d_M_handsAct_79) hS (fun H locs hR hS => ?_)
    refine lv_iadd hx hb d_M_handsAct_82 ?_
    refine g_nI hf (fun x32 hf => ?_)
    exact g_iret hx hb hr hlocks hR hS hf rfl d_M_handsAct_83
  have hf := cd_f hc20 hf
  refine lv_lookup (off := 78) (tgt := 84) hx hb d_M_handsAct_6 (by decide) ((lv_osw hc7 rfl).trans ((lv_osw hc11 rfl).trans ((lv_osw hc20 rfl).trans (rfl)))) (by decide) ?_
  refine lv_aload_n hx hb d_M_handsAct_84 rfl (lv_at hl 0 rfl) ?_
  refine lv_iload_n hx hb d_M_handsAct_85 rfl (lv_at hl 1 rfl) ?_
  refine lv_iload_n hx hb d_M_handsAct_86 rfl (lv_at hl 2 rfl) ?_
  have ⟨x33, w34, h35, hf⟩ := kl_e hf
  refine g_ki0 (g_rV (As := [.int a1, .int a2]) (rest := []) hx hb hml hown hts hK hR hS (c_M_payerHands l D cA oc B N a0 a1 a2 w h35) I_M_payerHands m_1527 mp_79 (gRecv hK hR (ci := 12) rfl h1) rfl rfl (Nat.le_of_ble_eq_true rfl) hl.1 ⟨Nat.le_of_ble_eq_true rfl, Nat.le_of_ble_eq_true rfl⟩ ⟨Nat.le_of_ble_eq_true rfl, Nat.le_of_ble_eq_true rfl⟩ d_M_handsAct_87) hS (fun H locs hR hS => ?_)
  exact g_iret hx hb hr hlocks hR hS hf rfl d_M_handsAct_90
theorem c_M_handsAct (l : Launch) (D : va_G) (cA : Nat → ClassId) (oc : gO) (B N : Nat) (a0 : Nat) (a1 : Int32) (a2 : Int32) (w : gW) {wz : gW} {r : Int32} (hf : f_M_handsAct N a0 a1 a2 w = some (r, wz)) : Met l y_M_handsAct (Cond.code y_M_handsAct b_M_handsAct 4 (some .int) :: lw_good) ({ frames := 6, cells := 0, slots := 0, locals := 149 } : Room) (gPre D cA oc B [.ref (B + a0), .int a1, .int a2] w) (gQi D cA B r wz) 0 0 (gA B) := by
  refine Met.ofW (cc := b_M_handsAct) (maxL := 4) (ret := (some .int)) (by decide +kernel) rfl ?_
  intro p e s m args below meth c s₁ Bd hml hv
  obtain ⟨hargs, C, hR⟩ := gC.enter (l := l) rfl Bd hml hv
  subst hargs
  have hl := lv_entry ([.ref (B + a0), .int a1, .int a2]) (n := 4) (Nat.le_of_ble_eq_true rfl)
  rw [lg_entry_eq]
  generalize (lg_sl ([.ref (B + a0), .int a1, .int a2]) ++ List.replicate (4 - (lg_sl ([.ref (B + a0), .int a1, .int a2])).length) Slot.unset).toArray = ls at hl ⊢
  have hl : lv_has ls 4 [(0, .ref (B + a0)), (1, .int a1), (2, .int a2)] := hl
  exact c_M_handsAct_b0 C a0 a1 a2 w (lv_sub hl [0, 1, 2] rfl) hf hR va_S.rf
theorem d_M_payerTells_0 : decode b_M_payerTells 0 = .ok (.aload_n 0, 1) := by decide +kernel
theorem d_M_payerTells_1 : decode b_M_payerTells 1 = .ok (.bipush 12, 2) := by decide +kernel
theorem d_M_payerTells_3 : decode b_M_payerTells 3 = .ok (.invokevirtual 386, 3) := by decide +kernel
theorem d_M_payerTells_6 : decode b_M_payerTells 6 = .ok (.aload_n 0, 1) := by decide +kernel
theorem d_M_payerTells_7 : decode b_M_payerTells 7 = .ok (.iload_n 1, 1) := by decide +kernel
theorem d_M_payerTells_8 : decode b_M_payerTells 8 = .ok (.iload_n 2, 1) := by decide +kernel
theorem d_M_payerTells_9 : decode b_M_payerTells 9 = .ok (.invokevirtual 401, 3) := by decide +kernel
theorem d_M_payerTells_12 : decode b_M_payerTells 12 = .ok (.iconst 2, 1) := by decide +kernel
theorem d_M_payerTells_13 : decode b_M_payerTells 13 = .ok (.imul, 1) := by decide +kernel
theorem d_M_payerTells_14 : decode b_M_payerTells 14 = .ok (.ireturn, 1) := by decide +kernel
set_option maxRecDepth 20000 in
theorem c_M_payerTells_b0 {r : Int32} {wz : gW} (C : gC p s m args meth c "RidCoppersModel" b_M_payerTells 3 (some .int) D cA oc B) (a0 : Nat) (a1 : Int32) (a2 : Int32) (w : gW) {ls : Array Slot} {H : Heap} {locs : List Loc} (hl : lv_has ls 3 [(0, .ref (B + a0)), (1, .int a1), (2, .int a2)]) (hf : f_M_payerTells_b0 N a0 a1 a2 w = some (r, wz)) (hR : gRep D cA B w H) (hS : va_S (gA B) s.heap H locs) : W p l e ({ frames := 7, cells := 0, slots := 0, locals := 172 } : Room) s m args below meth c H locs 0 0 (MQ below (gQi D cA B r wz) args s 0 0 (gA B)) (F0 m 0 ls []) := by
  obtain ⟨hx, hb, hml, hown, hts, hr, hlocks, hK, hBs⟩ := id C
  unfold f_M_payerTells_b0 at hf
  refine lv_aload_n hx hb d_M_payerTells_0 rfl (lv_at hl 0 rfl) ?_
  refine lv_bipush (v := 12) hx hb d_M_payerTells_1 (by decide) ?_
  have ⟨h4, hf⟩ := gd_e hf
  have ⟨x1, w2, h3, hf⟩ := kl_e hf
  refine g_kv0 (g_rV (As := [.int 12]) (rest := []) hx hb hml hown hts hK hR hS (c_M_body l D cA oc B N a0 12 w h3) I_M_body m_1511 mp_75 (gRecv hK hR (ci := 12) rfl h4) rfl rfl (Nat.le_of_ble_eq_true rfl) hl.1 ⟨Nat.le_of_ble_eq_true rfl, Nat.le_of_ble_eq_true rfl⟩ ⟨Nat.le_of_ble_eq_true rfl, Nat.le_of_ble_eq_true rfl⟩ d_M_payerTells_3) hS (fun H locs hR hS => ?_)
  refine lv_aload_n hx hb d_M_payerTells_6 rfl (lv_at hl 0 rfl) ?_
  refine lv_iload_n hx hb d_M_payerTells_7 rfl (lv_at hl 1 rfl) ?_
  refine lv_iload_n hx hb d_M_payerTells_8 rfl (lv_at hl 2 rfl) ?_
  have ⟨h8, hf⟩ := gd_e hf
  have ⟨x5, w6, h7, hf⟩ := kl_e hf
  refine g_ki0 (g_rV (As := [.int a1, .int a2]) (rest := []) hx hb hml hown hts hK hR hS (c_M_handsAct l D cA oc B N a0 a1 a2 w2 h7) I_M_handsAct m_1519 mp_77 (gRecv hK hR (ci := 12) rfl h8) rfl rfl (Nat.le_of_ble_eq_true rfl) hl.1 ⟨Nat.le_of_ble_eq_true rfl, Nat.le_of_ble_eq_true rfl⟩ ⟨Nat.le_of_ble_eq_true rfl, Nat.le_of_ble_eq_true rfl⟩ d_M_payerTells_9) hS (fun H locs hR hS => ?_)
  refine lv_iconst (v := 2) hx hb d_M_payerTells_12 (by decide) ?_
  refine lv_imul hx hb d_M_payerTells_13 ?_
  refine g_nI hf (fun x9 hf => ?_)
  exact g_iret hx hb hr hlocks hR hS hf rfl d_M_payerTells_14
theorem c_M_payerTells (l : Launch) (D : va_G) (cA : Nat → ClassId) (oc : gO) (B N : Nat) (a0 : Nat) (a1 : Int32) (a2 : Int32) (w : gW) {wz : gW} {r : Int32} (hf : f_M_payerTells N a0 a1 a2 w = some (r, wz)) : Met l y_M_payerTells (Cond.code y_M_payerTells b_M_payerTells 3 (some .int) :: lw_good) ({ frames := 7, cells := 0, slots := 0, locals := 172 } : Room) (gPre D cA oc B [.ref (B + a0), .int a1, .int a2] w) (gQi D cA B r wz) 0 0 (gA B) := by
  refine Met.ofW (cc := b_M_payerTells) (maxL := 3) (ret := (some .int)) (by decide +kernel) rfl ?_
  intro p e s m args below meth c s₁ Bd hml hv
  obtain ⟨hargs, C, hR⟩ := gC.enter (l := l) rfl Bd hml hv
  subst hargs
  have hl := lv_entry ([.ref (B + a0), .int a1, .int a2]) (n := 3) (Nat.le_of_ble_eq_true rfl)
  rw [lg_entry_eq]
  generalize (lg_sl ([.ref (B + a0), .int a1, .int a2]) ++ List.replicate (3 - (lg_sl ([.ref (B + a0), .int a1, .int a2])).length) Slot.unset).toArray = ls at hl ⊢
  have hl : lv_has ls 3 [(0, .ref (B + a0)), (1, .int a1), (2, .int a2)] := hl
  exact c_M_payerTells_b0 C a0 a1 a2 w (lv_sub hl [0, 1, 2] rfl) hf hR va_S.rf
theorem d_M_tellsAct_0 : decode b_M_tellsAct 0 = .ok (.aload_n 0, 1) := by decide +kernel
theorem d_M_tellsAct_1 : decode b_M_tellsAct 1 = .ok (.getfield 17, 3) := by decide +kernel
theorem d_M_tellsAct_4 : decode b_M_tellsAct 4 = .ok (.iload_n 1, 1) := by decide +kernel
theorem d_M_tellsAct_5 : decode b_M_tellsAct 5 = .ok (.iaload, 1) := by decide +kernel
theorem d_M_tellsAct_6 : decode b_M_tellsAct 6 = .ok (.tableswitch 67 3 6 #[30, 67, 52, 30], 30) := by decide +kernel
theorem d_M_tellsAct_36 : decode b_M_tellsAct 36 = .ok (.aload_n 0, 1) := by decide +kernel
theorem d_M_tellsAct_37 : decode b_M_tellsAct 37 = .ok (.bipush 40, 2) := by decide +kernel
theorem d_M_tellsAct_39 : decode b_M_tellsAct 39 = .ok (.invokevirtual 386, 3) := by decide +kernel
theorem d_M_tellsAct_42 : decode b_M_tellsAct 42 = .ok (.aload_n 0, 1) := by decide +kernel
theorem d_M_tellsAct_43 : decode b_M_tellsAct 43 = .ok (.iload_n 1, 1) := by decide +kernel
theorem d_M_tellsAct_44 : decode b_M_tellsAct 44 = .ok (.iload_n 2, 1) := by decide +kernel
theorem d_M_tellsAct_45 : decode b_M_tellsAct 45 = .ok (.invokevirtual 404, 3) := by decide +kernel
theorem d_M_tellsAct_48 : decode b_M_tellsAct 48 = .ok (.istore_n 3, 1) := by decide +kernel
theorem d_M_tellsAct_49 : decode b_M_tellsAct 49 = .ok (.iload_n 3, 1) := by decide +kernel
theorem d_M_tellsAct_50 : decode b_M_tellsAct 50 = .ok (.aload_n 0, 1) := by decide +kernel
theorem d_M_tellsAct_51 : decode b_M_tellsAct 51 = .ok (.iload_n 1, 1) := by decide +kernel
theorem d_M_tellsAct_52 : decode b_M_tellsAct 52 = .ok (.iconst 1, 1) := by decide +kernel
theorem d_M_tellsAct_53 : decode b_M_tellsAct 53 = .ok (.invokevirtual 401, 3) := by decide +kernel
theorem d_M_tellsAct_56 : decode b_M_tellsAct 56 = .ok (.iadd, 1) := by decide +kernel
theorem d_M_tellsAct_57 : decode b_M_tellsAct 57 = .ok (.ireturn, 1) := by decide +kernel
theorem d_M_tellsAct_58 : decode b_M_tellsAct 58 = .ok (.aload_n 0, 1) := by decide +kernel
theorem d_M_tellsAct_59 : decode b_M_tellsAct 59 = .ok (.bipush 60, 2) := by decide +kernel
theorem d_M_tellsAct_61 : decode b_M_tellsAct 61 = .ok (.invokevirtual 386, 3) := by decide +kernel
theorem d_M_tellsAct_64 : decode b_M_tellsAct 64 = .ok (.aload_n 0, 1) := by decide +kernel
theorem d_M_tellsAct_65 : decode b_M_tellsAct 65 = .ok (.iload_n 1, 1) := by decide +kernel
theorem d_M_tellsAct_66 : decode b_M_tellsAct 66 = .ok (.iload_n 2, 1) := by decide +kernel
theorem d_M_tellsAct_67 : decode b_M_tellsAct 67 = .ok (.iload_n 1, 1) := by decide +kernel
theorem d_M_tellsAct_68 : decode b_M_tellsAct 68 = .ok (.isub, 1) := by decide +kernel
theorem d_M_tellsAct_69 : decode b_M_tellsAct 69 = .ok (.invokevirtual 404, 3) := by decide +kernel
theorem d_M_tellsAct_72 : decode b_M_tellsAct 72 = .ok (.ireturn, 1) := by decide +kernel
theorem d_M_tellsAct_73 : decode b_M_tellsAct 73 = .ok (.aload_n 0, 1) := by decide +kernel
theorem d_M_tellsAct_74 : decode b_M_tellsAct 74 = .ok (.iload_n 1, 1) := by decide +kernel
theorem d_M_tellsAct_75 : decode b_M_tellsAct 75 = .ok (.iload_n 2, 1) := by decide +kernel
theorem d_M_tellsAct_76 : decode b_M_tellsAct 76 = .ok (.invokevirtual 404, 3) := by decide +kernel
theorem d_M_tellsAct_79 : decode b_M_tellsAct 79 = .ok (.ireturn, 1) := by decide +kernel
set_option maxRecDepth 20000 in
theorem c_M_tellsAct_b36 {r : Int32} {wz : gW} (C : gC p s m args meth c "RidCoppersModel" b_M_tellsAct 4 (some .int) D cA oc B) (a0 : Nat) (a1 : Int32) (a2 : Int32) (w : gW) {ls : Array Slot} {H : Heap} {locs : List Loc} (hl : lv_has ls 4 [(0, .ref (B + a0)), (1, .int a1), (2, .int a2)]) (hf : f_M_tellsAct_b36 N a0 a1 a2 w = some (r, wz)) (hR : gRep D cA B w H) (hS : va_S (gA B) s.heap H locs) : W p l e ({ frames := 8, cells := 0, slots := 0, locals := 194 } : Room) s m args below meth c H locs 0 0 (MQ below (gQi D cA B r wz) args s 0 0 (gA B)) (F0 m 36 ls []) := by
  obtain ⟨hx, hb, hml, hown, hts, hr, hlocks, hK, hBs⟩ := id C
  unfold f_M_tellsAct_b36 at hf
  refine lv_aload_n hx hb d_M_tellsAct_36 rfl (lv_at hl 0 rfl) ?_
  refine lv_bipush (v := 40) hx hb d_M_tellsAct_37 (by decide) ?_
  have ⟨h11, hf⟩ := gd_e hf
  have ⟨x8, w9, h10, hf⟩ := kl_e hf
  refine g_kv0 (g_rV (As := [.int 40]) (rest := []) hx hb hml hown hts hK hR hS (c_M_body l D cA oc B N a0 40 w h10) I_M_body m_1511 mp_75 (gRecv hK hR (ci := 12) rfl h11) rfl rfl (Nat.le_of_ble_eq_true rfl) hl.1 ⟨Nat.le_of_ble_eq_true rfl, Nat.le_of_ble_eq_true rfl⟩ ⟨Nat.le_of_ble_eq_true rfl, Nat.le_of_ble_eq_true rfl⟩ d_M_tellsAct_39) hS (fun H locs hR hS => ?_)
  refine lv_aload_n hx hb d_M_tellsAct_42 rfl (lv_at hl 0 rfl) ?_
  refine lv_iload_n hx hb d_M_tellsAct_43 rfl (lv_at hl 1 rfl) ?_
  refine lv_iload_n hx hb d_M_tellsAct_44 rfl (lv_at hl 2 rfl) ?_
  have ⟨h15, hf⟩ := gd_e hf
  have ⟨x12, w13, h14, hf⟩ := kl_e hf
  refine g_ki0 (g_rV (As := [.int a1, .int a2]) (rest := []) hx hb hml hown hts hK hR hS (c_M_payerTells l D cA oc B N a0 a1 a2 w9 h14) I_M_payerTells m_1535 mp_81 (gRecv hK hR (ci := 12) rfl h15) rfl rfl (Nat.le_of_ble_eq_true rfl) hl.1 ⟨Nat.le_of_ble_eq_true rfl, Nat.le_of_ble_eq_true rfl⟩ ⟨Nat.le_of_ble_eq_true rfl, Nat.le_of_ble_eq_true rfl⟩ d_M_tellsAct_45) hS (fun H locs hR hS => ?_)
  refine lv_istore_n (lv' := [(3, .int x12), (0, .ref (B + a0)), (1, .int a1), (2, .int a2)]) hx hb d_M_tellsAct_48 rfl hl (by decide) rfl (fun ls hl => ?_)
  refine lv_iload_n hx hb d_M_tellsAct_49 rfl (lv_at hl 0 rfl) ?_
  refine lv_aload_n hx hb d_M_tellsAct_50 rfl (lv_at hl 1 rfl) ?_
  refine lv_iload_n hx hb d_M_tellsAct_51 rfl (lv_at hl 2 rfl) ?_
  refine lv_iconst (v := 1) hx hb d_M_tellsAct_52 (by decide) ?_
  have ⟨h19, hf⟩ := gd_e hf
  have ⟨x16, w17, h18, hf⟩ := kl_e hf
  refine g_ki0 (g_rV (As := [.int a1, .int 1]) (rest := [.int x12]) hx hb hml hown hts hK hR hS (c_M_handsAct l D cA oc B N a0 a1 1 w13 h18) I_M_handsAct m_1519 mp_77 (gRecv hK hR (ci := 12) rfl h19) rfl rfl (Nat.le_of_ble_eq_true rfl) hl.1 ⟨Nat.le_of_ble_eq_true rfl, Nat.le_of_ble_eq_true rfl⟩ ⟨Nat.le_of_ble_eq_true rfl, Nat.le_of_ble_eq_true rfl⟩ d_M_tellsAct_53) hS (fun H locs hR hS => ?_)
  refine lv_iadd hx hb d_M_tellsAct_56 ?_
  refine g_nI hf (fun x20 hf => ?_)
  exact g_iret hx hb hr hlocks hR hS hf rfl d_M_tellsAct_57
set_option maxRecDepth 20000 in
theorem c_M_tellsAct_b73 {r : Int32} {wz : gW} (C : gC p s m args meth c "RidCoppersModel" b_M_tellsAct 4 (some .int) D cA oc B) (a0 : Nat) (a1 : Int32) (a2 : Int32) (w : gW) {ls : Array Slot} {H : Heap} {locs : List Loc} (hl : lv_has ls 4 [(0, .ref (B + a0)), (1, .int a1), (2, .int a2)]) (hf : f_M_tellsAct_b73 N a0 a1 a2 w = some (r, wz)) (hR : gRep D cA B w H) (hS : va_S (gA B) s.heap H locs) : W p l e ({ frames := 8, cells := 0, slots := 0, locals := 194 } : Room) s m args below meth c H locs 0 0 (MQ below (gQi D cA B r wz) args s 0 0 (gA B)) (F0 m 73 ls []) := by
  obtain ⟨hx, hb, hml, hown, hts, hr, hlocks, hK, hBs⟩ := id C
  unfold f_M_tellsAct_b73 at hf
  refine lv_aload_n hx hb d_M_tellsAct_73 rfl (lv_at hl 0 rfl) ?_
  refine lv_iload_n hx hb d_M_tellsAct_74 rfl (lv_at hl 1 rfl) ?_
  refine lv_iload_n hx hb d_M_tellsAct_75 rfl (lv_at hl 2 rfl) ?_
  have ⟨h34, hf⟩ := gd_e hf
  have ⟨x31, w32, h33, hf⟩ := kl_e hf
  refine g_ki0 (g_rV (As := [.int a1, .int a2]) (rest := []) hx hb hml hown hts hK hR hS (c_M_payerTells l D cA oc B N a0 a1 a2 w h33) I_M_payerTells m_1535 mp_81 (gRecv hK hR (ci := 12) rfl h34) rfl rfl (Nat.le_of_ble_eq_true rfl) hl.1 ⟨Nat.le_of_ble_eq_true rfl, Nat.le_of_ble_eq_true rfl⟩ ⟨Nat.le_of_ble_eq_true rfl, Nat.le_of_ble_eq_true rfl⟩ d_M_tellsAct_76) hS (fun H locs hR hS => ?_)
  exact g_iret hx hb hr hlocks hR hS hf rfl d_M_tellsAct_79
set_option maxRecDepth 20000 in
theorem c_M_tellsAct_b0 {r : Int32} {wz : gW} (C : gC p s m args meth c "RidCoppersModel" b_M_tellsAct 4 (some .int) D cA oc B) (a0 : Nat) (a1 : Int32) (a2 : Int32) (w : gW) {ls : Array Slot} {H : Heap} {locs : List Loc} (hl : lv_has ls 4 [(0, .ref (B + a0)), (1, .int a1), (2, .int a2)]) (hf : f_M_tellsAct_b0 N a0 a1 a2 w = some (r, wz)) (hR : gRep D cA B w H) (hS : va_S (gA B) s.heap H locs) : W p l e ({ frames := 8, cells := 0, slots := 0, locals := 194 } : Room) s m args below meth c H locs 0 0 (MQ below (gQi D cA B r wz) args s 0 0 (gA B)) (F0 m 0 ls []) := by
  obtain ⟨hx, hb, hml, hown, hts, hr, hlocks, hK, hBs⟩ := id C
  unfold f_M_tellsAct_b0 at hf
  refine lv_aload_n hx hb d_M_tellsAct_0 rfl (lv_at hl 0 rfl) ?_
  have ⟨h1, hf⟩ := gd_e hf
  have ⟨x2, h3, hf⟩ := rr_e hf
  refine g_getR hx hb hts hown hK hR fl_M_17 (fun _ => rfl) h1 h3 d_M_tellsAct_1 ?_
  refine lv_iload_n hx hb d_M_tellsAct_4 rfl (lv_at hl 1 rfl) ?_
  have ⟨h4, hf⟩ := gd_e hf
  have ⟨h5, hf⟩ := gd_e hf
  refine g_iald hx hb hK hR h4 h5 d_M_tellsAct_5 ?_
  refine g_nI hf (fun x6 hf => ?_)
  by_cases hc7 : x6 = 3
  · refine lv_tableIn (off := 30) (tgt := 36) hx hb d_M_tellsAct_6 (by rw [hc7]; decide) (by rw [hc7]; decide) (by rw [hc7]; rfl) (by decide) ?_
    have hf := cd_t hc7 hf
    exact c_M_tellsAct_b36 C a0 a1 a2 w (lv_sub hl [0, 1, 2] rfl) hf hR hS
  have hf := cd_f hc7 hf
  by_cases hc21 : x6 = 5
  · refine lv_tableIn (off := 52) (tgt := 58) hx hb d_M_tellsAct_6 (by rw [hc21]; decide) (by rw [hc21]; decide) (by rw [hc21]; rfl) (by decide) ?_
    have hf := cd_t hc21 hf
    refine lv_aload_n hx hb d_M_tellsAct_58 rfl (lv_at hl 0 rfl) ?_
    refine lv_bipush (v := 60) hx hb d_M_tellsAct_59 (by decide) ?_
    have ⟨x22, w23, h24, hf⟩ := kl_e hf
    refine g_kv0 (g_rV (As := [.int 60]) (rest := []) hx hb hml hown hts hK hR hS (c_M_body l D cA oc B N a0 60 w h24) I_M_body m_1511 mp_75 (gRecv hK hR (ci := 12) rfl h1) rfl rfl (Nat.le_of_ble_eq_true rfl) hl.1 ⟨Nat.le_of_ble_eq_true rfl, Nat.le_of_ble_eq_true rfl⟩ ⟨Nat.le_of_ble_eq_true rfl, Nat.le_of_ble_eq_true rfl⟩ d_M_tellsAct_61) hS (fun H locs hR hS => ?_)
    refine lv_aload_n hx hb d_M_tellsAct_64 rfl (lv_at hl 0 rfl) ?_
    refine lv_iload_n hx hb d_M_tellsAct_65 rfl (lv_at hl 1 rfl) ?_
    refine lv_iload_n hx hb d_M_tellsAct_66 rfl (lv_at hl 2 rfl) ?_
    refine lv_iload_n hx hb d_M_tellsAct_67 rfl (lv_at hl 1 rfl) ?_
    refine lv_isub hx hb d_M_tellsAct_68 ?_
    refine g_nI hf (fun x25 hf => ?_)
    have ⟨h29, hf⟩ := gd_e hf
    have ⟨x26, w27, h28, hf⟩ := kl_e hf
    refine g_ki0 (g_rV (As := [.int a1, .int x25]) (rest := []) hx hb hml hown hts hK hR hS (c_M_payerTells l D cA oc B N a0 a1 x25 w23 h28) I_M_payerTells m_1535 mp_81 (gRecv hK hR (ci := 12) rfl h29) rfl rfl (Nat.le_of_ble_eq_true rfl) hl.1 ⟨Nat.le_of_ble_eq_true rfl, Nat.le_of_ble_eq_true rfl⟩ ⟨Nat.le_of_ble_eq_true rfl, Nat.le_of_ble_eq_true rfl⟩ d_M_tellsAct_69) hS (fun H locs hR hS => ?_)
    exact g_iret hx hb hr hlocks hR hS hf rfl d_M_tellsAct_72
  have hf := cd_f hc21 hf
  by_cases hc30 : x6 = 6
  · refine lv_tableIn (off := 30) (tgt := 36) hx hb d_M_tellsAct_6 (by rw [hc30]; decide) (by rw [hc30]; decide) (by rw [hc30]; rfl) (by decide) ?_
    have hf := cd_t hc30 hf
    exact c_M_tellsAct_b36 C a0 a1 a2 w (lv_sub hl [0, 1, 2] rfl) hf hR hS
  have hf := cd_f hc30 hf
  by_cases hcm : x6 = 4
  · refine lv_tableIn (off := 67) (tgt := 73) hx hb d_M_tellsAct_6 (by rw [hcm]; decide) (by rw [hcm]; decide) (by rw [hcm]; rfl) (by decide) ?_
    exact c_M_tellsAct_b73 C a0 a1 a2 w (lv_sub hl [0, 1, 2] rfl) hf hR hS
  have hcm4 := hcm
  have hout : x6.toInt < 3 ∨ 6 < x6.toInt := by
    have := lv_neT (a := 3) hc7 rfl
    have := lv_neT (a := 5) hc21 rfl
    have := lv_neT (a := 6) hc30 rfl
    have := lv_neT (a := 4) hcm4 rfl
    omega
  refine lv_tableOut (tgt := 73) hx hb d_M_tellsAct_6 hout (by decide) ?_
  exact c_M_tellsAct_b73 C a0 a1 a2 w (lv_sub hl [0, 1, 2] rfl) hf hR hS
theorem c_M_tellsAct (l : Launch) (D : va_G) (cA : Nat → ClassId) (oc : gO) (B N : Nat) (a0 : Nat) (a1 : Int32) (a2 : Int32) (w : gW) {wz : gW} {r : Int32} (hf : f_M_tellsAct N a0 a1 a2 w = some (r, wz)) : Met l y_M_tellsAct (Cond.code y_M_tellsAct b_M_tellsAct 4 (some .int) :: lw_good) ({ frames := 8, cells := 0, slots := 0, locals := 194 } : Room) (gPre D cA oc B [.ref (B + a0), .int a1, .int a2] w) (gQi D cA B r wz) 0 0 (gA B) := by
  refine Met.ofW (cc := b_M_tellsAct) (maxL := 4) (ret := (some .int)) (by decide +kernel) rfl ?_
  intro p e s m args below meth c s₁ Bd hml hv
  obtain ⟨hargs, C, hR⟩ := gC.enter (l := l) rfl Bd hml hv
  subst hargs
  have hl := lv_entry ([.ref (B + a0), .int a1, .int a2]) (n := 4) (Nat.le_of_ble_eq_true rfl)
  rw [lg_entry_eq]
  generalize (lg_sl ([.ref (B + a0), .int a1, .int a2]) ++ List.replicate (4 - (lg_sl ([.ref (B + a0), .int a1, .int a2])).length) Slot.unset).toArray = ls at hl ⊢
  have hl : lv_has ls 4 [(0, .ref (B + a0)), (1, .int a1), (2, .int a2)] := hl
  exact c_M_tellsAct_b0 C a0 a1 a2 w (lv_sub hl [0, 1, 2] rfl) hf hR va_S.rf
theorem d_M_act_0 : decode b_M_act 0 = .ok (.aload_n 0, 1) := by decide +kernel
theorem d_M_act_1 : decode b_M_act 1 = .ok (.iconst 0, 1) := by decide +kernel
theorem d_M_act_2 : decode b_M_act 2 = .ok (.putfield 211, 3) := by decide +kernel
theorem d_M_act_5 : decode b_M_act 5 = .ok (.aload_n 0, 1) := by decide +kernel
theorem d_M_act_6 : decode b_M_act 6 = .ok (.iload_n 1, 1) := by decide +kernel
theorem d_M_act_7 : decode b_M_act 7 = .ok (.invokevirtual 234, 3) := by decide +kernel
theorem d_M_act_10 : decode b_M_act 10 = .ok (.ifCond .eq 13, 3) := by decide +kernel
theorem d_M_act_13 : decode b_M_act 13 = .ok (.aload_n 0, 1) := by decide +kernel
theorem d_M_act_14 : decode b_M_act 14 = .ok (.iload_n 2, 1) := by decide +kernel
theorem d_M_act_15 : decode b_M_act 15 = .ok (.iconst 0, 1) := by decide +kernel
theorem d_M_act_16 : decode b_M_act 16 = .ok (.iconst 2, 1) := by decide +kernel
theorem d_M_act_17 : decode b_M_act 17 = .ok (.invokevirtual 230, 3) := by decide +kernel
theorem d_M_act_20 : decode b_M_act 20 = .ok (.ifCond .ne 5, 3) := by decide +kernel
theorem d_M_act_23 : decode b_M_act 23 = .ok (.iconst 0, 1) := by decide +kernel
theorem d_M_act_24 : decode b_M_act 24 = .ok (.ireturn, 1) := by decide +kernel
theorem d_M_act_25 : decode b_M_act 25 = .ok (.iload_n 2, 1) := by decide +kernel
theorem d_M_act_26 : decode b_M_act 26 = .ok (.ifCond .ne 12, 3) := by decide +kernel
theorem d_M_act_29 : decode b_M_act 29 = .ok (.aload_n 0, 1) := by decide +kernel
theorem d_M_act_30 : decode b_M_act 30 = .ok (.iload_n 1, 1) := by decide +kernel
theorem d_M_act_31 : decode b_M_act 31 = .ok (.iload_n 3, 1) := by decide +kernel
theorem d_M_act_32 : decode b_M_act 32 = .ok (.invokevirtual 392, 3) := by decide +kernel
theorem d_M_act_35 : decode b_M_act 35 = .ok (.goto 23, 3) := by decide +kernel
theorem d_M_act_38 : decode b_M_act 38 = .ok (.iload_n 2, 1) := by decide +kernel
theorem d_M_act_39 : decode b_M_act 39 = .ok (.iconst 1, 1) := by decide +kernel
theorem d_M_act_40 : decode b_M_act 40 = .ok (.if_icmp .ne 12, 3) := by decide +kernel
theorem d_M_act_43 : decode b_M_act 43 = .ok (.aload_n 0, 1) := by decide +kernel
theorem d_M_act_44 : decode b_M_act 44 = .ok (.iload_n 1, 1) := by decide +kernel
theorem d_M_act_45 : decode b_M_act 45 = .ok (.iload_n 3, 1) := by decide +kernel
theorem d_M_act_46 : decode b_M_act 46 = .ok (.invokevirtual 401, 3) := by decide +kernel
theorem d_M_act_49 : decode b_M_act 49 = .ok (.goto 9, 3) := by decide +kernel
theorem d_M_act_52 : decode b_M_act 52 = .ok (.aload_n 0, 1) := by decide +kernel
theorem d_M_act_53 : decode b_M_act 53 = .ok (.iload_n 1, 1) := by decide +kernel
theorem d_M_act_54 : decode b_M_act 54 = .ok (.iload_n 3, 1) := by decide +kernel
theorem d_M_act_55 : decode b_M_act 55 = .ok (.invokevirtual 407, 3) := by decide +kernel
theorem d_M_act_58 : decode b_M_act 58 = .ok (.ireturn, 1) := by decide +kernel
set_option maxRecDepth 20000 in
theorem c_M_act_b0 {r : Int32} {wz : gW} (C : gC p s m args meth c "RidCoppersModel" b_M_act 4 (some .int) D cA oc B) (a0 : Nat) (a1 : Int32) (a2 : Int32) (a3 : Int32) (w : gW) {ls : Array Slot} {H : Heap} {locs : List Loc} (hl : lv_has ls 4 [(0, .ref (B + a0)), (1, .int a1), (2, .int a2), (3, .int a3)]) (hf : f_M_act_b0 N a0 a1 a2 a3 w = some (r, wz)) (hR : gRep D cA B w H) (hS : va_S (gA B) s.heap H locs) : W p l e ({ frames := 9, cells := 0, slots := 0, locals := 217 } : Room) s m args below meth c H locs 0 0 (MQ below (gQi D cA B r wz) args s 0 0 (gA B)) (F0 m 0 ls []) := by
  obtain ⟨hx, hb, hml, hown, hts, hr, hlocks, hK, hBs⟩ := id C
  unfold f_M_act_b0 at hf
  refine lv_aload_n hx hb d_M_act_0 rfl (lv_at hl 0 rfl) ?_
  refine lv_iconst (v := 0) hx hb d_M_act_1 (by decide) ?_
  have ⟨h1, hf⟩ := gd_e hf
  refine g_putI hx hb hts hown hK hR hS pf_M_211 (fun _ => rfl) rfl rfl h1 d_M_act_2 (fun H locs hR hS => ?_)
  refine g_nW hf hR (fun w2 hf hR => ?_)
  refine lv_aload_n hx hb d_M_act_5 rfl (lv_at hl 0 rfl) ?_
  refine lv_iload_n hx hb d_M_act_6 rfl (lv_at hl 1 rfl) ?_
  have ⟨h6, hf⟩ := gd_e hf
  have ⟨x3, w4, h5, hf⟩ := kl_e hf
  refine g_ki0 (g_rV (As := [.int a1]) (rest := []) hx hb hml hown hts hK hR hS (c_M_isPayer l D cA oc B N a0 a1 w2 h5) I_M_isPayer m_1212 mp_28 (gRecv hK hR (ci := 12) rfl h6) rfl rfl (Nat.le_of_ble_eq_true rfl) hl.1 ⟨Nat.le_of_ble_eq_true rfl, Nat.le_of_ble_eq_true rfl⟩ ⟨Nat.le_of_ble_eq_true rfl, Nat.le_of_ble_eq_true rfl⟩ d_M_act_7) hS (fun H locs hR hS => ?_)
  refine lv_if_eq (tgt := 23) hx hb d_M_act_10 (by decide) (fun hc => ?_) (fun hc => ?_)
  · have hf := cd_t hc hf
    refine lv_iconst (v := 0) hx hb d_M_act_23 (by decide) ?_
    exact g_iret hx hb hr hlocks hR hS hf rfl d_M_act_24
  have hf := cd_f hc hf
  refine lv_aload_n hx hb d_M_act_13 rfl (lv_at hl 0 rfl) ?_
  refine lv_iload_n hx hb d_M_act_14 rfl (lv_at hl 2 rfl) ?_
  refine lv_iconst (v := 0) hx hb d_M_act_15 (by decide) ?_
  refine lv_iconst (v := 2) hx hb d_M_act_16 (by decide) ?_
  have ⟨h10, hf⟩ := gd_e hf
  have ⟨x7, w8, h9, hf⟩ := kl_e hf
  refine g_ki0 (g_rV (As := [.int a2, .int 0, .int 2]) (rest := []) hx hb hml hown hts hK hR hS (c_M_in l D cA oc B N a0 a2 0 2 w4 h9) I_M_in m_1204 mp_27 (gRecv hK hR (ci := 12) rfl h10) rfl rfl (Nat.le_of_ble_eq_true rfl) hl.1 ⟨Nat.le_of_ble_eq_true rfl, Nat.le_of_ble_eq_true rfl⟩ ⟨Nat.le_of_ble_eq_true rfl, Nat.le_of_ble_eq_true rfl⟩ d_M_act_17) hS (fun H locs hR hS => ?_)
  refine lv_if_ne (tgt := 25) hx hb d_M_act_20 (by decide) (fun hc => ?_) (fun hc => ?_)
  · have hf := cd_f hc hf
    refine lv_iload_n hx hb d_M_act_25 rfl (lv_at hl 2 rfl) ?_
    refine lv_if_ne (tgt := 38) hx hb d_M_act_26 (by decide) (fun hc => ?_) (fun hc => ?_)
    · have hf := cd_f hc hf
      refine lv_iload_n hx hb d_M_act_38 rfl (lv_at hl 2 rfl) ?_
      refine lv_iconst (v := 1) hx hb d_M_act_39 (by decide) ?_
      refine lv_icmp_ne (tgt := 52) hx hb d_M_act_40 (by decide) (fun hc => ?_) (fun hc => ?_)
      · have hf := cd_f hc hf
        refine lv_aload_n hx hb d_M_act_52 rfl (lv_at hl 0 rfl) ?_
        refine lv_iload_n hx hb d_M_act_53 rfl (lv_at hl 1 rfl) ?_
        refine lv_iload_n hx hb d_M_act_54 rfl (lv_at hl 3 rfl) ?_
        have ⟨h14, hf⟩ := gd_e hf
        have ⟨x11, w12, h13, hf⟩ := kl_e hf
        refine g_ki0 (g_rV (As := [.int a1, .int a3]) (rest := []) hx hb hml hown hts hK hR hS (c_M_tellsAct l D cA oc B N a0 a1 a3 w8 h13) I_M_tellsAct m_1531 mp_80 (gRecv hK hR (ci := 12) rfl h14) rfl rfl (Nat.le_of_ble_eq_true rfl) hl.1 ⟨Nat.le_of_ble_eq_true rfl, Nat.le_of_ble_eq_true rfl⟩ ⟨Nat.le_of_ble_eq_true rfl, Nat.le_of_ble_eq_true rfl⟩ d_M_act_55) hS (fun H locs hR hS => ?_)
        exact g_iret hx hb hr hlocks hR hS hf rfl d_M_act_58
      have hf := cd_t hc hf
      refine lv_aload_n hx hb d_M_act_43 rfl (lv_at hl 0 rfl) ?_
      refine lv_iload_n hx hb d_M_act_44 rfl (lv_at hl 1 rfl) ?_
      refine lv_iload_n hx hb d_M_act_45 rfl (lv_at hl 3 rfl) ?_
      have ⟨h18, hf⟩ := gd_e hf
      have ⟨x15, w16, h17, hf⟩ := kl_e hf
      refine g_ki0 (g_rV (As := [.int a1, .int a3]) (rest := []) hx hb hml hown hts hK hR hS (c_M_handsAct l D cA oc B N a0 a1 a3 w8 h17) I_M_handsAct m_1519 mp_77 (gRecv hK hR (ci := 12) rfl h18) rfl rfl (Nat.le_of_ble_eq_true rfl) hl.1 ⟨Nat.le_of_ble_eq_true rfl, Nat.le_of_ble_eq_true rfl⟩ ⟨Nat.le_of_ble_eq_true rfl, Nat.le_of_ble_eq_true rfl⟩ d_M_act_46) hS (fun H locs hR hS => ?_)
      refine lv_goto (tgt := 58) hx hb d_M_act_49 (by decide) ?_
      exact g_iret hx hb hr hlocks hR hS hf rfl d_M_act_58
    have hf := cd_t hc hf
    refine lv_aload_n hx hb d_M_act_29 rfl (lv_at hl 0 rfl) ?_
    refine lv_iload_n hx hb d_M_act_30 rfl (lv_at hl 1 rfl) ?_
    refine lv_iload_n hx hb d_M_act_31 rfl (lv_at hl 3 rfl) ?_
    have ⟨h22, hf⟩ := gd_e hf
    have ⟨x19, w20, h21, hf⟩ := kl_e hf
    refine g_ki0 (g_rV (As := [.int a1, .int a3]) (rest := []) hx hb hml hown hts hK hR hS (c_M_countsAct l D cA oc B N a0 a1 a3 w8 h21) I_M_countsAct m_1507 mp_74 (gRecv hK hR (ci := 12) rfl h22) rfl rfl (Nat.le_of_ble_eq_true rfl) hl.1 ⟨Nat.le_of_ble_eq_true rfl, Nat.le_of_ble_eq_true rfl⟩ ⟨Nat.le_of_ble_eq_true rfl, Nat.le_of_ble_eq_true rfl⟩ d_M_act_32) hS (fun H locs hR hS => ?_)
    refine lv_goto (tgt := 58) hx hb d_M_act_35 (by decide) ?_
    exact g_iret hx hb hr hlocks hR hS hf rfl d_M_act_58
  have hf := cd_t hc hf
  refine lv_iconst (v := 0) hx hb d_M_act_23 (by decide) ?_
  exact g_iret hx hb hr hlocks hR hS hf rfl d_M_act_24
theorem c_M_act (l : Launch) (D : va_G) (cA : Nat → ClassId) (oc : gO) (B N : Nat) (a0 : Nat) (a1 : Int32) (a2 : Int32) (a3 : Int32) (w : gW) {wz : gW} {r : Int32} (hf : f_M_act N a0 a1 a2 a3 w = some (r, wz)) : Met l y_M_act (Cond.code y_M_act b_M_act 4 (some .int) :: lw_good) ({ frames := 9, cells := 0, slots := 0, locals := 217 } : Room) (gPre D cA oc B [.ref (B + a0), .int a1, .int a2, .int a3] w) (gQi D cA B r wz) 0 0 (gA B) := by
  refine Met.ofW (cc := b_M_act) (maxL := 4) (ret := (some .int)) (by decide +kernel) rfl ?_
  intro p e s m args below meth c s₁ Bd hml hv
  obtain ⟨hargs, C, hR⟩ := gC.enter (l := l) rfl Bd hml hv
  subst hargs
  have hl := lv_entry ([.ref (B + a0), .int a1, .int a2, .int a3]) (n := 4) (Nat.le_of_ble_eq_true rfl)
  rw [lg_entry_eq]
  generalize (lg_sl ([.ref (B + a0), .int a1, .int a2, .int a3]) ++ List.replicate (4 - (lg_sl ([.ref (B + a0), .int a1, .int a2, .int a3])).length) Slot.unset).toArray = ls at hl ⊢
  have hl : lv_has ls 4 [(0, .ref (B + a0)), (1, .int a1), (2, .int a2), (3, .int a3)] := hl
  exact c_M_act_b0 C a0 a1 a2 a3 w (lv_sub hl [0, 1, 2, 3] rfl) hf hR va_S.rf
theorem d_M_trace_0 : decode b_M_trace 0 = .ok (.aload_n 0, 1) := by decide +kernel
theorem d_M_trace_1 : decode b_M_trace 1 = .ok (.iload_n 1, 1) := by decide +kernel
theorem d_M_trace_2 : decode b_M_trace 2 = .ok (.iconst 0, 1) := by decide +kernel
theorem d_M_trace_3 : decode b_M_trace 3 = .ok (.bipush 19, 2) := by decide +kernel
theorem d_M_trace_5 : decode b_M_trace 5 = .ok (.invokevirtual 230, 3) := by decide +kernel
theorem d_M_trace_8 : decode b_M_trace 8 = .ok (.ifCond .eq 20, 3) := by decide +kernel
theorem d_M_trace_11 : decode b_M_trace 11 = .ok (.iload_n 1, 1) := by decide +kernel
theorem d_M_trace_12 : decode b_M_trace 12 = .ok (.aload_n 0, 1) := by decide +kernel
theorem d_M_trace_13 : decode b_M_trace 13 = .ok (.getfield 211, 3) := by decide +kernel
theorem d_M_trace_16 : decode b_M_trace 16 = .ok (.if_icmp .ge 12, 3) := by decide +kernel
theorem d_M_trace_19 : decode b_M_trace 19 = .ok (.aload_n 0, 1) := by decide +kernel
theorem d_M_trace_20 : decode b_M_trace 20 = .ok (.getfield 214, 3) := by decide +kernel
theorem d_M_trace_23 : decode b_M_trace 23 = .ok (.iload_n 1, 1) := by decide +kernel
theorem d_M_trace_24 : decode b_M_trace 24 = .ok (.iaload, 1) := by decide +kernel
theorem d_M_trace_25 : decode b_M_trace 25 = .ok (.goto 4, 3) := by decide +kernel
theorem d_M_trace_28 : decode b_M_trace 28 = .ok (.iconst (-1), 1) := by decide +kernel
theorem d_M_trace_29 : decode b_M_trace 29 = .ok (.ireturn, 1) := by decide +kernel
set_option maxRecDepth 20000 in
theorem c_M_trace_b0 {r : Int32} {wz : gW} (C : gC p s m args meth c "RidCoppersModel" b_M_trace 2 (some .int) D cA oc B) (a0 : Nat) (a1 : Int32) (w : gW) {ls : Array Slot} {H : Heap} {locs : List Loc} (hl : lv_has ls 2 [(0, .ref (B + a0)), (1, .int a1)]) (hf : f_M_trace_b0 N a0 a1 w = some (r, wz)) (hR : gRep D cA B w H) (hS : va_S (gA B) s.heap H locs) : W p l e ({ frames := 2, cells := 0, slots := 0, locals := 63 } : Room) s m args below meth c H locs 0 0 (MQ below (gQi D cA B r wz) args s 0 0 (gA B)) (F0 m 0 ls []) := by
  obtain ⟨hx, hb, hml, hown, hts, hr, hlocks, hK, hBs⟩ := id C
  unfold f_M_trace_b0 at hf
  refine lv_aload_n hx hb d_M_trace_0 rfl (lv_at hl 0 rfl) ?_
  refine lv_iload_n hx hb d_M_trace_1 rfl (lv_at hl 1 rfl) ?_
  refine lv_iconst (v := 0) hx hb d_M_trace_2 (by decide) ?_
  refine lv_bipush (v := 19) hx hb d_M_trace_3 (by decide) ?_
  have ⟨h4, hf⟩ := gd_e hf
  have ⟨x1, w2, h3, hf⟩ := kl_e hf
  refine g_ki0 (g_rV (As := [.int a1, .int 0, .int 19]) (rest := []) hx hb hml hown hts hK hR hS (c_M_in l D cA oc B N a0 a1 0 19 w h3) I_M_in m_1204 mp_27 (gRecv hK hR (ci := 12) rfl h4) rfl rfl (Nat.le_of_ble_eq_true rfl) hl.1 ⟨Nat.le_of_ble_eq_true rfl, Nat.le_of_ble_eq_true rfl⟩ ⟨Nat.le_of_ble_eq_true rfl, Nat.le_of_ble_eq_true rfl⟩ d_M_trace_5) hS (fun H locs hR hS => ?_)
  refine lv_if_eq (tgt := 28) hx hb d_M_trace_8 (by decide) (fun hc => ?_) (fun hc => ?_)
  · have hf := cd_t hc hf
    refine lv_iconst (v := (-1)) hx hb d_M_trace_28 (by decide) ?_
    exact g_iret hx hb hr hlocks hR hS hf rfl d_M_trace_29
  have hf := cd_f hc hf
  refine lv_iload_n hx hb d_M_trace_11 rfl (lv_at hl 1 rfl) ?_
  refine lv_aload_n hx hb d_M_trace_12 rfl (lv_at hl 0 rfl) ?_
  have ⟨h5, hf⟩ := gd_e hf
  refine g_getI hx hb hts hown hK hR fl_M_211 (fun _ => rfl) h5 d_M_trace_13 ?_
  refine g_nI hf (fun x6 hf => ?_)
  refine lv_icmp_ge (tgt := 28) hx hb d_M_trace_16 (by decide) (fun hc => ?_) (fun hc => ?_)
  · have hf := cd_t hc hf
    refine lv_iconst (v := (-1)) hx hb d_M_trace_28 (by decide) ?_
    exact g_iret hx hb hr hlocks hR hS hf rfl d_M_trace_29
  have hf := cd_f hc hf
  refine lv_aload_n hx hb d_M_trace_19 rfl (lv_at hl 0 rfl) ?_
  have ⟨x7, h8, hf⟩ := rr_e hf
  refine g_getR hx hb hts hown hK hR fl_M_214 (fun _ => rfl) h5 h8 d_M_trace_20 ?_
  refine lv_iload_n hx hb d_M_trace_23 rfl (lv_at hl 1 rfl) ?_
  have ⟨h9, hf⟩ := gd_e hf
  have ⟨h10, hf⟩ := gd_e hf
  refine g_iald hx hb hK hR h9 h10 d_M_trace_24 ?_
  refine g_nI hf (fun x11 hf => ?_)
  refine lv_goto (tgt := 29) hx hb d_M_trace_25 (by decide) ?_
  exact g_iret hx hb hr hlocks hR hS hf rfl d_M_trace_29
theorem c_M_trace (l : Launch) (D : va_G) (cA : Nat → ClassId) (oc : gO) (B N : Nat) (a0 : Nat) (a1 : Int32) (w : gW) {wz : gW} {r : Int32} (hf : f_M_trace N a0 a1 w = some (r, wz)) : Met l y_M_trace (Cond.code y_M_trace b_M_trace 2 (some .int) :: lw_good) ({ frames := 2, cells := 0, slots := 0, locals := 63 } : Room) (gPre D cA oc B [.ref (B + a0), .int a1] w) (gQi D cA B r wz) 0 0 (gA B) := by
  refine Met.ofW (cc := b_M_trace) (maxL := 2) (ret := (some .int)) (by decide +kernel) rfl ?_
  intro p e s m args below meth c s₁ Bd hml hv
  obtain ⟨hargs, C, hR⟩ := gC.enter (l := l) rfl Bd hml hv
  subst hargs
  have hl := lv_entry ([.ref (B + a0), .int a1]) (n := 2) (Nat.le_of_ble_eq_true rfl)
  rw [lg_entry_eq]
  generalize (lg_sl ([.ref (B + a0), .int a1]) ++ List.replicate (2 - (lg_sl ([.ref (B + a0), .int a1])).length) Slot.unset).toArray = ls at hl ⊢
  have hl : lv_has ls 2 [(0, .ref (B + a0)), (1, .int a1)] := hl
  exact c_M_trace_b0 C a0 a1 w (lv_sub hl [0, 1] rfl) hf hR va_S.rf
theorem d_M_taken_0 : decode b_M_taken 0 = .ok (.aload_n 0, 1) := by decide +kernel
theorem d_M_taken_1 : decode b_M_taken 1 = .ok (.iload_n 2, 1) := by decide +kernel
theorem d_M_taken_2 : decode b_M_taken 2 = .ok (.iconst 0, 1) := by decide +kernel
theorem d_M_taken_3 : decode b_M_taken 3 = .ok (.bipush 6, 2) := by decide +kernel
theorem d_M_taken_5 : decode b_M_taken 5 = .ok (.invokevirtual 230, 3) := by decide +kernel
theorem d_M_taken_8 : decode b_M_taken 8 = .ok (.ifCond .ne 6, 3) := by decide +kernel
theorem d_M_taken_11 : decode b_M_taken 11 = .ok (.bipush (-2), 2) := by decide +kernel
theorem d_M_taken_13 : decode b_M_taken 13 = .ok (.ireturn, 1) := by decide +kernel
theorem d_M_taken_14 : decode b_M_taken 14 = .ok (.aload_n 0, 1) := by decide +kernel
theorem d_M_taken_15 : decode b_M_taken 15 = .ok (.iload_n 1, 1) := by decide +kernel
theorem d_M_taken_16 : decode b_M_taken 16 = .ok (.invokevirtual 234, 3) := by decide +kernel
theorem d_M_taken_19 : decode b_M_taken 19 = .ok (.ifCond .ne 6, 3) := by decide +kernel
theorem d_M_taken_22 : decode b_M_taken 22 = .ok (.bipush (-11), 2) := by decide +kernel
theorem d_M_taken_24 : decode b_M_taken 24 = .ok (.ireturn, 1) := by decide +kernel
theorem d_M_taken_25 : decode b_M_taken 25 = .ok (.aload_n 0, 1) := by decide +kernel
theorem d_M_taken_26 : decode b_M_taken 26 = .ok (.getfield 17, 3) := by decide +kernel
theorem d_M_taken_29 : decode b_M_taken 29 = .ok (.iload_n 1, 1) := by decide +kernel
theorem d_M_taken_30 : decode b_M_taken 30 = .ok (.iaload, 1) := by decide +kernel
theorem d_M_taken_31 : decode b_M_taken 31 = .ok (.istore_n 3, 1) := by decide +kernel
theorem d_M_taken_32 : decode b_M_taken 32 = .ok (.iload_n 2, 1) := by decide +kernel
theorem d_M_taken_33 : decode b_M_taken 33 = .ok (.ifCond .eq 39, 3) := by decide +kernel
theorem d_M_taken_36 : decode b_M_taken 36 = .ok (.iload_n 3, 1) := by decide +kernel
theorem d_M_taken_37 : decode b_M_taken 37 = .ok (.iload_n 2, 1) := by decide +kernel
theorem d_M_taken_38 : decode b_M_taken 38 = .ok (.if_icmp .eq 34, 3) := by decide +kernel
theorem d_M_taken_41 : decode b_M_taken 41 = .ok (.iload_n 2, 1) := by decide +kernel
theorem d_M_taken_42 : decode b_M_taken 42 = .ok (.iconst 1, 1) := by decide +kernel
theorem d_M_taken_43 : decode b_M_taken 43 = .ok (.if_icmp .ne 8, 3) := by decide +kernel
theorem d_M_taken_46 : decode b_M_taken 46 = .ok (.iload_n 3, 1) := by decide +kernel
theorem d_M_taken_47 : decode b_M_taken 47 = .ok (.iconst 4, 1) := by decide +kernel
theorem d_M_taken_48 : decode b_M_taken 48 = .ok (.if_icmp .eq 24, 3) := by decide +kernel
theorem d_M_taken_51 : decode b_M_taken 51 = .ok (.iload_n 2, 1) := by decide +kernel
theorem d_M_taken_52 : decode b_M_taken 52 = .ok (.iconst 2, 1) := by decide +kernel
theorem d_M_taken_53 : decode b_M_taken 53 = .ok (.if_icmp .ne 8, 3) := by decide +kernel
theorem d_M_taken_56 : decode b_M_taken 56 = .ok (.iload_n 3, 1) := by decide +kernel
theorem d_M_taken_57 : decode b_M_taken 57 = .ok (.iconst 5, 1) := by decide +kernel
theorem d_M_taken_58 : decode b_M_taken 58 = .ok (.if_icmp .eq 14, 3) := by decide +kernel
theorem d_M_taken_61 : decode b_M_taken 61 = .ok (.iload_n 2, 1) := by decide +kernel
theorem d_M_taken_62 : decode b_M_taken 62 = .ok (.iconst 3, 1) := by decide +kernel
theorem d_M_taken_63 : decode b_M_taken 63 = .ok (.if_icmp .ne 13, 3) := by decide +kernel
theorem d_M_taken_66 : decode b_M_taken 66 = .ok (.iload_n 3, 1) := by decide +kernel
theorem d_M_taken_67 : decode b_M_taken 67 = .ok (.bipush 6, 2) := by decide +kernel
theorem d_M_taken_69 : decode b_M_taken 69 = .ok (.if_icmp .ne 7, 3) := by decide +kernel
theorem d_M_taken_72 : decode b_M_taken 72 = .ok (.iload_n 3, 1) := by decide +kernel
theorem d_M_taken_73 : decode b_M_taken 73 = .ok (.goto 5, 3) := by decide +kernel
theorem d_M_taken_76 : decode b_M_taken 76 = .ok (.bipush (-12), 2) := by decide +kernel
theorem d_M_taken_78 : decode b_M_taken 78 = .ok (.ireturn, 1) := by decide +kernel
set_option maxRecDepth 20000 in
theorem c_M_taken_b61 {r : Int32} {wz : gW} (C : gC p s m args meth c "RidCoppersModel" b_M_taken 4 (some .int) D cA oc B) (a2 : Int32) (a3 : Int32) (w : gW) {ls : Array Slot} {H : Heap} {locs : List Loc} (hl : lv_has ls 4 [(2, .int a2), (3, .int a3)]) (hf : f_M_taken_b61 N a2 a3 w = some (r, wz)) (hR : gRep D cA B w H) (hS : va_S (gA B) s.heap H locs) : W p l e ({ frames := 3, cells := 0, slots := 0, locals := 84 } : Room) s m args below meth c H locs 0 0 (MQ below (gQi D cA B r wz) args s 0 0 (gA B)) (F0 m 61 ls []) := by
  obtain ⟨hx, hb, hml, hown, hts, hr, hlocks, hK, hBs⟩ := id C
  unfold f_M_taken_b61 at hf
  refine lv_iload_n hx hb d_M_taken_61 rfl (lv_at hl 0 rfl) ?_
  refine lv_iconst (v := 3) hx hb d_M_taken_62 (by decide) ?_
  refine lv_icmp_ne (tgt := 76) hx hb d_M_taken_63 (by decide) (fun hc => ?_) (fun hc => ?_)
  · have hf := cd_f hc hf
    refine lv_bipush (v := (-12)) hx hb d_M_taken_76 (by decide) ?_
    exact g_iret hx hb hr hlocks hR hS hf rfl d_M_taken_78
  have hf := cd_t hc hf
  refine lv_iload_n hx hb d_M_taken_66 rfl (lv_at hl 1 rfl) ?_
  refine lv_bipush (v := 6) hx hb d_M_taken_67 (by decide) ?_
  refine lv_icmp_ne (tgt := 76) hx hb d_M_taken_69 (by decide) (fun hc => ?_) (fun hc => ?_)
  · have hf := cd_f hc hf
    refine lv_bipush (v := (-12)) hx hb d_M_taken_76 (by decide) ?_
    exact g_iret hx hb hr hlocks hR hS hf rfl d_M_taken_78
  have hf := cd_t hc hf
  refine lv_iload_n hx hb d_M_taken_72 rfl (lv_at hl 1 rfl) ?_
  refine lv_goto (tgt := 78) hx hb d_M_taken_73 (by decide) ?_
  exact g_iret hx hb hr hlocks hR hS hf rfl d_M_taken_78
set_option maxRecDepth 20000 in
theorem c_M_taken_b51 {r : Int32} {wz : gW} (C : gC p s m args meth c "RidCoppersModel" b_M_taken 4 (some .int) D cA oc B) (a2 : Int32) (a3 : Int32) (w : gW) {ls : Array Slot} {H : Heap} {locs : List Loc} (hl : lv_has ls 4 [(2, .int a2), (3, .int a3)]) (hf : f_M_taken_b51 N a2 a3 w = some (r, wz)) (hR : gRep D cA B w H) (hS : va_S (gA B) s.heap H locs) : W p l e ({ frames := 3, cells := 0, slots := 0, locals := 84 } : Room) s m args below meth c H locs 0 0 (MQ below (gQi D cA B r wz) args s 0 0 (gA B)) (F0 m 51 ls []) := by
  obtain ⟨hx, hb, hml, hown, hts, hr, hlocks, hK, hBs⟩ := id C
  unfold f_M_taken_b51 at hf
  refine lv_iload_n hx hb d_M_taken_51 rfl (lv_at hl 0 rfl) ?_
  refine lv_iconst (v := 2) hx hb d_M_taken_52 (by decide) ?_
  refine lv_icmp_ne (tgt := 61) hx hb d_M_taken_53 (by decide) (fun hc => ?_) (fun hc => ?_)
  · have hf := cd_f hc hf
    exact c_M_taken_b61 C a2 a3 w (lv_sub hl [0, 1] rfl) hf hR hS
  have hf := cd_t hc hf
  refine lv_iload_n hx hb d_M_taken_56 rfl (lv_at hl 1 rfl) ?_
  refine lv_iconst (v := 5) hx hb d_M_taken_57 (by decide) ?_
  refine lv_icmp_eq (tgt := 72) hx hb d_M_taken_58 (by decide) (fun hc => ?_) (fun hc => ?_)
  · have hf := cd_t hc hf
    refine lv_iload_n hx hb d_M_taken_72 rfl (lv_at hl 1 rfl) ?_
    refine lv_goto (tgt := 78) hx hb d_M_taken_73 (by decide) ?_
    exact g_iret hx hb hr hlocks hR hS hf rfl d_M_taken_78
  have hf := cd_f hc hf
  exact c_M_taken_b61 C a2 a3 w (lv_sub hl [0, 1] rfl) hf hR hS
set_option maxRecDepth 20000 in
theorem c_M_taken_b0 {r : Int32} {wz : gW} (C : gC p s m args meth c "RidCoppersModel" b_M_taken 4 (some .int) D cA oc B) (a0 : Nat) (a1 : Int32) (a2 : Int32) (w : gW) {ls : Array Slot} {H : Heap} {locs : List Loc} (hl : lv_has ls 4 [(0, .ref (B + a0)), (1, .int a1), (2, .int a2)]) (hf : f_M_taken_b0 N a0 a1 a2 w = some (r, wz)) (hR : gRep D cA B w H) (hS : va_S (gA B) s.heap H locs) : W p l e ({ frames := 3, cells := 0, slots := 0, locals := 84 } : Room) s m args below meth c H locs 0 0 (MQ below (gQi D cA B r wz) args s 0 0 (gA B)) (F0 m 0 ls []) := by
  obtain ⟨hx, hb, hml, hown, hts, hr, hlocks, hK, hBs⟩ := id C
  unfold f_M_taken_b0 at hf
  refine lv_aload_n hx hb d_M_taken_0 rfl (lv_at hl 0 rfl) ?_
  refine lv_iload_n hx hb d_M_taken_1 rfl (lv_at hl 2 rfl) ?_
  refine lv_iconst (v := 0) hx hb d_M_taken_2 (by decide) ?_
  refine lv_bipush (v := 6) hx hb d_M_taken_3 (by decide) ?_
  have ⟨h4, hf⟩ := gd_e hf
  have ⟨x1, w2, h3, hf⟩ := kl_e hf
  refine g_ki0 (g_rV (As := [.int a2, .int 0, .int 6]) (rest := []) hx hb hml hown hts hK hR hS (c_M_in l D cA oc B N a0 a2 0 6 w h3) I_M_in m_1204 mp_27 (gRecv hK hR (ci := 12) rfl h4) rfl rfl (Nat.le_of_ble_eq_true rfl) hl.1 ⟨Nat.le_of_ble_eq_true rfl, Nat.le_of_ble_eq_true rfl⟩ ⟨Nat.le_of_ble_eq_true rfl, Nat.le_of_ble_eq_true rfl⟩ d_M_taken_5) hS (fun H locs hR hS => ?_)
  refine lv_if_ne (tgt := 14) hx hb d_M_taken_8 (by decide) (fun hc => ?_) (fun hc => ?_)
  · have hf := cd_f hc hf
    refine lv_aload_n hx hb d_M_taken_14 rfl (lv_at hl 0 rfl) ?_
    refine lv_iload_n hx hb d_M_taken_15 rfl (lv_at hl 1 rfl) ?_
    have ⟨h8, hf⟩ := gd_e hf
    have ⟨x5, w6, h7, hf⟩ := kl_e hf
    refine g_ki0 (g_rV (As := [.int a1]) (rest := []) hx hb hml hown hts hK hR hS (c_M_isPayer l D cA oc B N a0 a1 w2 h7) I_M_isPayer m_1212 mp_28 (gRecv hK hR (ci := 12) rfl h8) rfl rfl (Nat.le_of_ble_eq_true rfl) hl.1 ⟨Nat.le_of_ble_eq_true rfl, Nat.le_of_ble_eq_true rfl⟩ ⟨Nat.le_of_ble_eq_true rfl, Nat.le_of_ble_eq_true rfl⟩ d_M_taken_16) hS (fun H locs hR hS => ?_)
    refine lv_if_ne (tgt := 25) hx hb d_M_taken_19 (by decide) (fun hc => ?_) (fun hc => ?_)
    · have hf := cd_f hc hf
      refine lv_aload_n hx hb d_M_taken_25 rfl (lv_at hl 0 rfl) ?_
      have ⟨h9, hf⟩ := gd_e hf
      have ⟨x10, h11, hf⟩ := rr_e hf
      refine g_getR hx hb hts hown hK hR fl_M_17 (fun _ => rfl) h9 h11 d_M_taken_26 ?_
      refine lv_iload_n hx hb d_M_taken_29 rfl (lv_at hl 1 rfl) ?_
      have ⟨h12, hf⟩ := gd_e hf
      have ⟨h13, hf⟩ := gd_e hf
      refine g_iald hx hb hK hR h12 h13 d_M_taken_30 ?_
      refine g_nI hf (fun x14 hf => ?_)
      refine lv_istore_n (lv' := [(3, .int x14), (0, .ref (B + a0)), (1, .int a1), (2, .int a2)]) hx hb d_M_taken_31 rfl hl (by decide) rfl (fun ls hl => ?_)
      refine lv_iload_n hx hb d_M_taken_32 rfl (lv_at hl 3 rfl) ?_
      refine lv_if_eq (tgt := 72) hx hb d_M_taken_33 (by decide) (fun hc => ?_) (fun hc => ?_)
      · have hf := cd_t hc hf
        refine lv_iload_n hx hb d_M_taken_72 rfl (lv_at hl 0 rfl) ?_
        refine lv_goto (tgt := 78) hx hb d_M_taken_73 (by decide) ?_
        exact g_iret hx hb hr hlocks hR hS hf rfl d_M_taken_78
      have hf := cd_f hc hf
      refine lv_iload_n hx hb d_M_taken_36 rfl (lv_at hl 0 rfl) ?_
      refine lv_iload_n hx hb d_M_taken_37 rfl (lv_at hl 3 rfl) ?_
      refine lv_icmp_eq (tgt := 72) hx hb d_M_taken_38 (by decide) (fun hc => ?_) (fun hc => ?_)
      · have hf := cd_t hc hf
        refine lv_iload_n hx hb d_M_taken_72 rfl (lv_at hl 0 rfl) ?_
        refine lv_goto (tgt := 78) hx hb d_M_taken_73 (by decide) ?_
        exact g_iret hx hb hr hlocks hR hS hf rfl d_M_taken_78
      have hf := cd_f hc hf
      refine lv_iload_n hx hb d_M_taken_41 rfl (lv_at hl 3 rfl) ?_
      refine lv_iconst (v := 1) hx hb d_M_taken_42 (by decide) ?_
      refine lv_icmp_ne (tgt := 51) hx hb d_M_taken_43 (by decide) (fun hc => ?_) (fun hc => ?_)
      · have hf := cd_f hc hf
        exact c_M_taken_b51 C a2 x14 w6 (lv_sub hl [3, 0] rfl) hf hR hS
      have hf := cd_t hc hf
      refine lv_iload_n hx hb d_M_taken_46 rfl (lv_at hl 0 rfl) ?_
      refine lv_iconst (v := 4) hx hb d_M_taken_47 (by decide) ?_
      refine lv_icmp_eq (tgt := 72) hx hb d_M_taken_48 (by decide) (fun hc => ?_) (fun hc => ?_)
      · have hf := cd_t hc hf
        refine lv_iload_n hx hb d_M_taken_72 rfl (lv_at hl 0 rfl) ?_
        refine lv_goto (tgt := 78) hx hb d_M_taken_73 (by decide) ?_
        exact g_iret hx hb hr hlocks hR hS hf rfl d_M_taken_78
      have hf := cd_f hc hf
      exact c_M_taken_b51 C a2 x14 w6 (lv_sub hl [3, 0] rfl) hf hR hS
    have hf := cd_t hc hf
    refine lv_bipush (v := (-11)) hx hb d_M_taken_22 (by decide) ?_
    exact g_iret hx hb hr hlocks hR hS hf rfl d_M_taken_24
  have hf := cd_t hc hf
  refine lv_bipush (v := (-2)) hx hb d_M_taken_11 (by decide) ?_
  exact g_iret hx hb hr hlocks hR hS hf rfl d_M_taken_13
theorem c_M_taken (l : Launch) (D : va_G) (cA : Nat → ClassId) (oc : gO) (B N : Nat) (a0 : Nat) (a1 : Int32) (a2 : Int32) (w : gW) {wz : gW} {r : Int32} (hf : f_M_taken N a0 a1 a2 w = some (r, wz)) : Met l y_M_taken (Cond.code y_M_taken b_M_taken 4 (some .int) :: lw_good) ({ frames := 3, cells := 0, slots := 0, locals := 84 } : Room) (gPre D cA oc B [.ref (B + a0), .int a1, .int a2] w) (gQi D cA B r wz) 0 0 (gA B) := by
  refine Met.ofW (cc := b_M_taken) (maxL := 4) (ret := (some .int)) (by decide +kernel) rfl ?_
  intro p e s m args below meth c s₁ Bd hml hv
  obtain ⟨hargs, C, hR⟩ := gC.enter (l := l) rfl Bd hml hv
  subst hargs
  have hl := lv_entry ([.ref (B + a0), .int a1, .int a2]) (n := 4) (Nat.le_of_ble_eq_true rfl)
  rw [lg_entry_eq]
  generalize (lg_sl ([.ref (B + a0), .int a1, .int a2]) ++ List.replicate (4 - (lg_sl ([.ref (B + a0), .int a1, .int a2])).length) Slot.unset).toArray = ls at hl ⊢
  have hl : lv_has ls 4 [(0, .ref (B + a0)), (1, .int a1), (2, .int a2)] := hl
  exact c_M_taken_b0 C a0 a1 a2 w (lv_sub hl [0, 1, 2] rfl) hf hR va_S.rf
theorem d_M_count_0 : decode b_M_count 0 = .ok (.iload_n 1, 1) := by decide +kernel
theorem d_M_count_1 : decode b_M_count 1 = .ok (.tableswitch 78 0 6 #[43, 48, 53, 58, 63, 68, 73], 43) := by decide +kernel
theorem d_M_count_44 : decode b_M_count 44 = .ok (.aload_n 0, 1) := by decide +kernel
theorem d_M_count_45 : decode b_M_count 45 = .ok (.getfield 7, 3) := by decide +kernel
theorem d_M_count_48 : decode b_M_count 48 = .ok (.ireturn, 1) := by decide +kernel
theorem d_M_count_49 : decode b_M_count 49 = .ok (.aload_n 0, 1) := by decide +kernel
theorem d_M_count_50 : decode b_M_count 50 = .ok (.getfield 35, 3) := by decide +kernel
theorem d_M_count_53 : decode b_M_count 53 = .ok (.ireturn, 1) := by decide +kernel
theorem d_M_count_54 : decode b_M_count 54 = .ok (.aload_n 0, 1) := by decide +kernel
theorem d_M_count_55 : decode b_M_count 55 = .ok (.getfield 135, 3) := by decide +kernel
theorem d_M_count_58 : decode b_M_count 58 = .ok (.ireturn, 1) := by decide +kernel
theorem d_M_count_59 : decode b_M_count 59 = .ok (.aload_n 0, 1) := by decide +kernel
theorem d_M_count_60 : decode b_M_count 60 = .ok (.getfield 141, 3) := by decide +kernel
theorem d_M_count_63 : decode b_M_count 63 = .ok (.ireturn, 1) := by decide +kernel
theorem d_M_count_64 : decode b_M_count 64 = .ok (.aload_n 0, 1) := by decide +kernel
theorem d_M_count_65 : decode b_M_count 65 = .ok (.getfield 150, 3) := by decide +kernel
theorem d_M_count_68 : decode b_M_count 68 = .ok (.ireturn, 1) := by decide +kernel
theorem d_M_count_69 : decode b_M_count 69 = .ok (.aload_n 0, 1) := by decide +kernel
theorem d_M_count_70 : decode b_M_count 70 = .ok (.getfield 41, 3) := by decide +kernel
theorem d_M_count_73 : decode b_M_count 73 = .ok (.ireturn, 1) := by decide +kernel
theorem d_M_count_74 : decode b_M_count 74 = .ok (.aload_n 0, 1) := by decide +kernel
theorem d_M_count_75 : decode b_M_count 75 = .ok (.getfield 211, 3) := by decide +kernel
theorem d_M_count_78 : decode b_M_count 78 = .ok (.ireturn, 1) := by decide +kernel
theorem d_M_count_79 : decode b_M_count 79 = .ok (.bipush (-2), 2) := by decide +kernel
theorem d_M_count_81 : decode b_M_count 81 = .ok (.ireturn, 1) := by decide +kernel
set_option maxRecDepth 20000 in
theorem c_M_count_b0 {r : Int32} {wz : gW} (C : gC p s m args meth c "RidCoppersModel" b_M_count 2 (some .int) D cA oc B) (a0 : Nat) (a1 : Int32) (w : gW) {ls : Array Slot} {H : Heap} {locs : List Loc} (hl : lv_has ls 2 [(0, .ref (B + a0)), (1, .int a1)]) (hf : f_M_count_b0 N a0 a1 w = some (r, wz)) (hR : gRep D cA B w H) (hS : va_S (gA B) s.heap H locs) : W p l e ({ frames := 1, cells := 0, slots := 0, locals := 40 } : Room) s m args below meth c H locs 0 0 (MQ below (gQi D cA B r wz) args s 0 0 (gA B)) (F0 m 0 ls []) := by
  obtain ⟨hx, hb, hml, hown, hts, hr, hlocks, hK, hBs⟩ := id C
  unfold f_M_count_b0 at hf
  refine lv_iload_n hx hb d_M_count_0 rfl (lv_at hl 1 rfl) ?_
  by_cases hc1 : a1 = 0
  · refine lv_tableIn (off := 43) (tgt := 44) hx hb d_M_count_1 (by rw [hc1]; decide) (by rw [hc1]; decide) (by rw [hc1]; rfl) (by decide) ?_
    have hf := cd_t hc1 hf
    refine lv_aload_n hx hb d_M_count_44 rfl (lv_at hl 0 rfl) ?_
    have ⟨h2, hf⟩ := gd_e hf
    refine g_getI hx hb hts hown hK hR fl_M_7 (fun _ => rfl) h2 d_M_count_45 ?_
    refine g_nI hf (fun x3 hf => ?_)
    exact g_iret hx hb hr hlocks hR hS hf rfl d_M_count_48
  have hf := cd_f hc1 hf
  by_cases hc4 : a1 = 1
  · refine lv_tableIn (off := 48) (tgt := 49) hx hb d_M_count_1 (by rw [hc4]; decide) (by rw [hc4]; decide) (by rw [hc4]; rfl) (by decide) ?_
    have hf := cd_t hc4 hf
    refine lv_aload_n hx hb d_M_count_49 rfl (lv_at hl 0 rfl) ?_
    have ⟨h5, hf⟩ := gd_e hf
    refine g_getI hx hb hts hown hK hR fl_M_35 (fun _ => rfl) h5 d_M_count_50 ?_
    refine g_nI hf (fun x6 hf => ?_)
    exact g_iret hx hb hr hlocks hR hS hf rfl d_M_count_53
  have hf := cd_f hc4 hf
  by_cases hc7 : a1 = 2
  · refine lv_tableIn (off := 53) (tgt := 54) hx hb d_M_count_1 (by rw [hc7]; decide) (by rw [hc7]; decide) (by rw [hc7]; rfl) (by decide) ?_
    have hf := cd_t hc7 hf
    refine lv_aload_n hx hb d_M_count_54 rfl (lv_at hl 0 rfl) ?_
    have ⟨h8, hf⟩ := gd_e hf
    refine g_getI hx hb hts hown hK hR fl_M_135 (fun _ => rfl) h8 d_M_count_55 ?_
    refine g_nI hf (fun x9 hf => ?_)
    exact g_iret hx hb hr hlocks hR hS hf rfl d_M_count_58
  have hf := cd_f hc7 hf
  by_cases hc10 : a1 = 3
  · refine lv_tableIn (off := 58) (tgt := 59) hx hb d_M_count_1 (by rw [hc10]; decide) (by rw [hc10]; decide) (by rw [hc10]; rfl) (by decide) ?_
    have hf := cd_t hc10 hf
    refine lv_aload_n hx hb d_M_count_59 rfl (lv_at hl 0 rfl) ?_
    have ⟨h11, hf⟩ := gd_e hf
    refine g_getI hx hb hts hown hK hR fl_M_141 (fun _ => rfl) h11 d_M_count_60 ?_
    refine g_nI hf (fun x12 hf => ?_)
    exact g_iret hx hb hr hlocks hR hS hf rfl d_M_count_63
  have hf := cd_f hc10 hf
  by_cases hc13 : a1 = 4
  · refine lv_tableIn (off := 63) (tgt := 64) hx hb d_M_count_1 (by rw [hc13]; decide) (by rw [hc13]; decide) (by rw [hc13]; rfl) (by decide) ?_
    have hf := cd_t hc13 hf
    refine lv_aload_n hx hb d_M_count_64 rfl (lv_at hl 0 rfl) ?_
    have ⟨h14, hf⟩ := gd_e hf
    refine g_getI hx hb hts hown hK hR fl_M_150 (fun _ => rfl) h14 d_M_count_65 ?_
    refine g_nI hf (fun x15 hf => ?_)
    exact g_iret hx hb hr hlocks hR hS hf rfl d_M_count_68
  have hf := cd_f hc13 hf
  by_cases hc16 : a1 = 5
  · refine lv_tableIn (off := 68) (tgt := 69) hx hb d_M_count_1 (by rw [hc16]; decide) (by rw [hc16]; decide) (by rw [hc16]; rfl) (by decide) ?_
    have hf := cd_t hc16 hf
    refine lv_aload_n hx hb d_M_count_69 rfl (lv_at hl 0 rfl) ?_
    have ⟨h17, hf⟩ := gd_e hf
    refine g_getI hx hb hts hown hK hR fl_M_41 (fun _ => rfl) h17 d_M_count_70 ?_
    refine g_nI hf (fun x18 hf => ?_)
    exact g_iret hx hb hr hlocks hR hS hf rfl d_M_count_73
  have hf := cd_f hc16 hf
  by_cases hc19 : a1 = 6
  · refine lv_tableIn (off := 73) (tgt := 74) hx hb d_M_count_1 (by rw [hc19]; decide) (by rw [hc19]; decide) (by rw [hc19]; rfl) (by decide) ?_
    have hf := cd_t hc19 hf
    refine lv_aload_n hx hb d_M_count_74 rfl (lv_at hl 0 rfl) ?_
    have ⟨h20, hf⟩ := gd_e hf
    refine g_getI hx hb hts hown hK hR fl_M_211 (fun _ => rfl) h20 d_M_count_75 ?_
    refine g_nI hf (fun x21 hf => ?_)
    exact g_iret hx hb hr hlocks hR hS hf rfl d_M_count_78
  have hf := cd_f hc19 hf
  have hout : a1.toInt < 0 ∨ 6 < a1.toInt := by
    have := lv_neT (a := 0) hc1 rfl
    have := lv_neT (a := 1) hc4 rfl
    have := lv_neT (a := 2) hc7 rfl
    have := lv_neT (a := 3) hc10 rfl
    have := lv_neT (a := 4) hc13 rfl
    have := lv_neT (a := 5) hc16 rfl
    have := lv_neT (a := 6) hc19 rfl
    omega
  refine lv_tableOut (tgt := 79) hx hb d_M_count_1 hout (by decide) ?_
  refine lv_bipush (v := (-2)) hx hb d_M_count_79 (by decide) ?_
  exact g_iret hx hb hr hlocks hR hS hf rfl d_M_count_81
theorem c_M_count (l : Launch) (D : va_G) (cA : Nat → ClassId) (oc : gO) (B N : Nat) (a0 : Nat) (a1 : Int32) (w : gW) {wz : gW} {r : Int32} (hf : f_M_count N a0 a1 w = some (r, wz)) : Met l y_M_count (Cond.code y_M_count b_M_count 2 (some .int) :: lw_good) ({ frames := 1, cells := 0, slots := 0, locals := 40 } : Room) (gPre D cA oc B [.ref (B + a0), .int a1] w) (gQi D cA B r wz) 0 0 (gA B) := by
  refine Met.ofW (cc := b_M_count) (maxL := 2) (ret := (some .int)) (by decide +kernel) rfl ?_
  intro p e s m args below meth c s₁ Bd hml hv
  obtain ⟨hargs, C, hR⟩ := gC.enter (l := l) rfl Bd hml hv
  subst hargs
  have hl := lv_entry ([.ref (B + a0), .int a1]) (n := 2) (Nat.le_of_ble_eq_true rfl)
  rw [lg_entry_eq]
  generalize (lg_sl ([.ref (B + a0), .int a1]) ++ List.replicate (2 - (lg_sl ([.ref (B + a0), .int a1])).length) Slot.unset).toArray = ls at hl ⊢
  have hl : lv_has ls 2 [(0, .ref (B + a0)), (1, .int a1)] := hl
  exact c_M_count_b0 C a0 a1 w (lv_sub hl [0, 1] rfl) hf hR va_S.rf
theorem d_M_tape_0 : decode b_M_tape 0 = .ok (.aload_n 0, 1) := by decide +kernel
theorem d_M_tape_1 : decode b_M_tape 1 = .ok (.iload_n 1, 1) := by decide +kernel
theorem d_M_tape_2 : decode b_M_tape 2 = .ok (.invokevirtual 383, 3) := by decide +kernel
theorem d_M_tape_5 : decode b_M_tape 5 = .ok (.ifCond .ne 5, 3) := by decide +kernel
theorem d_M_tape_8 : decode b_M_tape 8 = .ok (.iconst (-1), 1) := by decide +kernel
theorem d_M_tape_9 : decode b_M_tape 9 = .ok (.ireturn, 1) := by decide +kernel
theorem d_M_tape_10 : decode b_M_tape 10 = .ok (.aload_n 0, 1) := by decide +kernel
theorem d_M_tape_11 : decode b_M_tape 11 = .ok (.iload_n 2, 1) := by decide +kernel
theorem d_M_tape_12 : decode b_M_tape 12 = .ok (.iconst (-1), 1) := by decide +kernel
theorem d_M_tape_13 : decode b_M_tape 13 = .ok (.iconst 4, 1) := by decide +kernel
theorem d_M_tape_14 : decode b_M_tape 14 = .ok (.invokevirtual 230, 3) := by decide +kernel
theorem d_M_tape_17 : decode b_M_tape 17 = .ok (.ifCond .eq 13, 3) := by decide +kernel
theorem d_M_tape_20 : decode b_M_tape 20 = .ok (.iload_n 2, 1) := by decide +kernel
theorem d_M_tape_21 : decode b_M_tape 21 = .ok (.ifCond .lt 12, 3) := by decide +kernel
theorem d_M_tape_24 : decode b_M_tape 24 = .ok (.iload_n 3, 1) := by decide +kernel
theorem d_M_tape_25 : decode b_M_tape 25 = .ok (.bipush 60, 2) := by decide +kernel
theorem d_M_tape_27 : decode b_M_tape 27 = .ok (.if_icmp .le 6, 3) := by decide +kernel
theorem d_M_tape_30 : decode b_M_tape 30 = .ok (.bipush (-2), 2) := by decide +kernel
theorem d_M_tape_32 : decode b_M_tape 32 = .ok (.ireturn, 1) := by decide +kernel
theorem d_M_tape_33 : decode b_M_tape 33 = .ok (.iload_n 2, 1) := by decide +kernel
theorem d_M_tape_34 : decode b_M_tape 34 = .ok (.ifCond .lt 10, 3) := by decide +kernel
theorem d_M_tape_37 : decode b_M_tape 37 = .ok (.iload_n 3, 1) := by decide +kernel
theorem d_M_tape_38 : decode b_M_tape 38 = .ok (.ifCond .ge 6, 3) := by decide +kernel
theorem d_M_tape_41 : decode b_M_tape 41 = .ok (.bipush (-14), 2) := by decide +kernel
theorem d_M_tape_43 : decode b_M_tape 43 = .ok (.ireturn, 1) := by decide +kernel
theorem d_M_tape_44 : decode b_M_tape 44 = .ok (.aload_n 0, 1) := by decide +kernel
theorem d_M_tape_45 : decode b_M_tape 45 = .ok (.getfield 217, 3) := by decide +kernel
theorem d_M_tape_48 : decode b_M_tape 48 = .ok (.iload_n 1, 1) := by decide +kernel
theorem d_M_tape_49 : decode b_M_tape 49 = .ok (.iload_n 2, 1) := by decide +kernel
theorem d_M_tape_50 : decode b_M_tape 50 = .ok (.iastore, 1) := by decide +kernel
theorem d_M_tape_51 : decode b_M_tape 51 = .ok (.aload_n 0, 1) := by decide +kernel
theorem d_M_tape_52 : decode b_M_tape 52 = .ok (.getfield 220, 3) := by decide +kernel
theorem d_M_tape_55 : decode b_M_tape 55 = .ok (.iload_n 1, 1) := by decide +kernel
theorem d_M_tape_56 : decode b_M_tape 56 = .ok (.iload_n 2, 1) := by decide +kernel
theorem d_M_tape_57 : decode b_M_tape 57 = .ok (.ifCond .ge 7, 3) := by decide +kernel
theorem d_M_tape_60 : decode b_M_tape 60 = .ok (.iconst 0, 1) := by decide +kernel
theorem d_M_tape_61 : decode b_M_tape 61 = .ok (.goto 4, 3) := by decide +kernel
theorem d_M_tape_64 : decode b_M_tape 64 = .ok (.iload_n 3, 1) := by decide +kernel
theorem d_M_tape_65 : decode b_M_tape 65 = .ok (.iastore, 1) := by decide +kernel
theorem d_M_tape_66 : decode b_M_tape 66 = .ok (.iconst 0, 1) := by decide +kernel
theorem d_M_tape_67 : decode b_M_tape 67 = .ok (.istore 4, 2) := by decide +kernel
theorem d_M_tape_69 : decode b_M_tape 69 = .ok (.iload 4, 2) := by decide +kernel
theorem d_M_tape_71 : decode b_M_tape 71 = .ok (.bipush 60, 2) := by decide +kernel
theorem d_M_tape_73 : decode b_M_tape 73 = .ok (.if_icmp .ge 22, 3) := by decide +kernel
theorem d_M_tape_76 : decode b_M_tape 76 = .ok (.aload_n 0, 1) := by decide +kernel
theorem d_M_tape_77 : decode b_M_tape 77 = .ok (.getfield 223, 3) := by decide +kernel
theorem d_M_tape_80 : decode b_M_tape 80 = .ok (.bipush 60, 2) := by decide +kernel
theorem d_M_tape_82 : decode b_M_tape 82 = .ok (.iload_n 1, 1) := by decide +kernel
theorem d_M_tape_83 : decode b_M_tape 83 = .ok (.imul, 1) := by decide +kernel
theorem d_M_tape_84 : decode b_M_tape 84 = .ok (.iload 4, 2) := by decide +kernel
theorem d_M_tape_86 : decode b_M_tape 86 = .ok (.iadd, 1) := by decide +kernel
theorem d_M_tape_87 : decode b_M_tape 87 = .ok (.lconst 0, 1) := by decide +kernel
theorem d_M_tape_88 : decode b_M_tape 88 = .ok (.lastore, 1) := by decide +kernel
theorem d_M_tape_89 : decode b_M_tape 89 = .ok (.iinc 4 1, 3) := by decide +kernel
theorem d_M_tape_92 : decode b_M_tape 92 = .ok (.goto (-23), 3) := by decide +kernel
theorem d_M_tape_95 : decode b_M_tape 95 = .ok (.iconst 1, 1) := by decide +kernel
theorem d_M_tape_96 : decode b_M_tape 96 = .ok (.ireturn, 1) := by decide +kernel
set_option maxRecDepth 20000 in
theorem c_M_tape_b69 {r : Int32} {wz : gW} {rec69 : Nat × Int32 × Int32 × gW → Option (Int32 × gW)} (ih69 : ∀ (a0 : Nat) (a1 : Int32) (a4 : Int32) (w : gW) (ls : Array Slot) (H : Heap) (locs : List Loc), rec69 (a0, a1, a4, w) = some (r, wz) → lv_has ls 5 [(0, .ref (B + a0)), (1, .int a1), (4, .int a4)] → gRep D cA B w H → va_S (gA B) s.heap H locs → W p l e ({ frames := 3, cells := 0, slots := 0, locals := 84 } : Room) s m args below meth c H locs 0 0 (MQ below (gQi D cA B r wz) args s 0 0 (gA B)) (F0 m 69 ls [])) (C : gC p s m args meth c "RidCoppersModel" b_M_tape 5 (some .int) D cA oc B) (a0 : Nat) (a1 : Int32) (a4 : Int32) (w : gW) {ls : Array Slot} {H : Heap} {locs : List Loc} (hl : lv_has ls 5 [(0, .ref (B + a0)), (1, .int a1), (4, .int a4)]) (hf : f_M_tape_b69 N rec69 a0 a1 a4 w = some (r, wz)) (hR : gRep D cA B w H) (hS : va_S (gA B) s.heap H locs) : W p l e ({ frames := 3, cells := 0, slots := 0, locals := 84 } : Room) s m args below meth c H locs 0 0 (MQ below (gQi D cA B r wz) args s 0 0 (gA B)) (F0 m 69 ls []) := by
  obtain ⟨hx, hb, hml, hown, hts, hr, hlocks, hK, hBs⟩ := id C
  unfold f_M_tape_b69 at hf
  refine lv_iload hx hb d_M_tape_69 (lv_at hl 2 rfl) ?_
  refine lv_bipush (v := 60) hx hb d_M_tape_71 (by decide) ?_
  refine lv_icmp_ge (tgt := 95) hx hb d_M_tape_73 (by decide) (fun hc => ?_) (fun hc => ?_)
  · have hf := cd_t hc hf
    refine lv_iconst (v := 1) hx hb d_M_tape_95 (by decide) ?_
    exact g_iret hx hb hr hlocks hR hS hf rfl d_M_tape_96
  have hf := cd_f hc hf
  refine lv_aload_n hx hb d_M_tape_76 rfl (lv_at hl 0 rfl) ?_
  have ⟨h21, hf⟩ := gd_e hf
  have ⟨x22, h23, hf⟩ := rr_e hf
  refine g_getR hx hb hts hown hK hR fl_M_223 (fun _ => rfl) h21 h23 d_M_tape_77 ?_
  refine lv_bipush (v := 60) hx hb d_M_tape_80 (by decide) ?_
  refine lv_iload_n hx hb d_M_tape_82 rfl (lv_at hl 1 rfl) ?_
  refine lv_imul hx hb d_M_tape_83 ?_
  refine g_nI hf (fun x24 hf => ?_)
  refine lv_iload hx hb d_M_tape_84 (lv_at hl 2 rfl) ?_
  refine lv_iadd hx hb d_M_tape_86 ?_
  refine g_nI hf (fun x25 hf => ?_)
  refine lv_lconst (v := 0) hx hb d_M_tape_87 (by decide) ?_
  have ⟨h26, hf⟩ := gd_e hf
  have ⟨h27, hf⟩ := gd_e hf
  refine g_last hx hb hK hR hS h26 h27 d_M_tape_88 (fun H locs hR hS => ?_)
  refine g_nW hf hR (fun w28 hf hR => ?_)
  refine g_iinc (lv' := fun x29 => [(4, .int x29), (0, .ref (B + a0)), (1, .int a1)]) hf hx hb d_M_tape_89 hl (k := 2) rfl (by decide) (by decide) (fun _ => rfl) (fun x29 ls hf hl => ?_)
  refine lv_goto (tgt := 69) hx hb d_M_tape_92 (by decide) ?_
  exact ih69 a0 a1 x29 w28 _ _ _ hf (lv_sub hl [1, 2, 0] rfl) hR hS
theorem c_M_tape_l69 {r : Int32} {wz : gW} (C : gC p s m args meth c "RidCoppersModel" b_M_tape 5 (some .int) D cA oc B) (a0 : Nat) (a1 : Int32) (a4 : Int32) (w : gW) {ls : Array Slot} {H : Heap} {locs : List Loc} (hl : lv_has ls 5 [(0, .ref (B + a0)), (1, .int a1), (4, .int a4)]) (hf : f_M_tape_l69 N a0 a1 a4 w = some (r, wz)) (hR : gRep D cA B w H) (hS : va_S (gA B) s.heap H locs) : W p l e ({ frames := 3, cells := 0, slots := 0, locals := 84 } : Room) s m args below meth c H locs 0 0 (MQ below (gQi D cA B r wz) args s 0 0 (gA B)) (F0 m 69 ls []) := by
  unfold f_M_tape_l69 at hf
  suffices hh : ∀ n : Nat, ∀ (a0 : Nat) (a1 : Int32) (a4 : Int32) (w : gW) (ls : Array Slot) (H : Heap) (locs : List Loc), itr (fun rec (q : Nat × Int32 × Int32 × gW) => f_M_tape_b69 N rec q.1 q.2.1 q.2.2.1 q.2.2.2) n (a0, a1, a4, w) = some (r, wz) → lv_has ls 5 [(0, .ref (B + a0)), (1, .int a1), (4, .int a4)] → gRep D cA B w H → va_S (gA B) s.heap H locs → W p l e ({ frames := 3, cells := 0, slots := 0, locals := 84 } : Room) s m args below meth c H locs 0 0 (MQ below (gQi D cA B r wz) args s 0 0 (gA B)) (F0 m 69 ls []) from hh N a0 a1 a4 w ls H locs hf hl hR hS
  intro n
  induction n with
  | zero => intro a0 a1 a4 w ls H locs hf; cases hf
  | succ n ihn =>
    intro a0 a1 a4 w ls H locs hf hl hR hS
    exact c_M_tape_b69 (N := N) ihn C a0 a1 a4 w hl ((itr_s _ _ _).symm.trans hf) hR hS
set_option maxRecDepth 20000 in
theorem c_M_tape_b65 {r : Int32} {wz : gW} (C : gC p s m args meth c "RidCoppersModel" b_M_tape 5 (some .int) D cA oc B) (a0 : Nat) (a1 : Int32) (z0 : Int32) (z1 : Int32) (z2 : Nat) (w : gW) {ls : Array Slot} {H : Heap} {locs : List Loc} (hl : lv_has ls 5 [(0, .ref (B + a0)), (1, .int a1)]) (hf : f_M_tape_b65 N a0 a1 z0 z1 z2 w = some (r, wz)) (hR : gRep D cA B w H) (hS : va_S (gA B) s.heap H locs) : W p l e ({ frames := 3, cells := 0, slots := 0, locals := 84 } : Room) s m args below meth c H locs 0 0 (MQ below (gQi D cA B r wz) args s 0 0 (gA B)) (F0 m 65 ls [.int z0, .int z1, .ref (B + z2)]) := by
  obtain ⟨hx, hb, hml, hown, hts, hr, hlocks, hK, hBs⟩ := id C
  unfold f_M_tape_b65 at hf
  have ⟨h18, hf⟩ := gd_e hf
  have ⟨h19, hf⟩ := gd_e hf
  refine g_iast hx hb hK hR hS h18 h19 d_M_tape_65 (fun H locs hR hS => ?_)
  refine g_nW hf hR (fun w20 hf hR => ?_)
  refine lv_iconst (v := 0) hx hb d_M_tape_66 (by decide) ?_
  refine lv_istore (lv' := [(4, .int 0), (0, .ref (B + a0)), (1, .int a1)]) hx hb d_M_tape_67 hl (by decide) rfl (fun ls hl => ?_)
  exact c_M_tape_l69 C a0 a1 0 w20 (lv_sub hl [1, 2, 0] rfl) hf hR hS
set_option maxRecDepth 20000 in
theorem c_M_tape_b44 {r : Int32} {wz : gW} (C : gC p s m args meth c "RidCoppersModel" b_M_tape 5 (some .int) D cA oc B) (a0 : Nat) (a1 : Int32) (a2 : Int32) (a3 : Int32) (w : gW) {ls : Array Slot} {H : Heap} {locs : List Loc} (hl : lv_has ls 5 [(0, .ref (B + a0)), (1, .int a1), (2, .int a2), (3, .int a3)]) (hf : f_M_tape_b44 N a0 a1 a2 a3 w = some (r, wz)) (hR : gRep D cA B w H) (hS : va_S (gA B) s.heap H locs) : W p l e ({ frames := 3, cells := 0, slots := 0, locals := 84 } : Room) s m args below meth c H locs 0 0 (MQ below (gQi D cA B r wz) args s 0 0 (gA B)) (F0 m 44 ls []) := by
  obtain ⟨hx, hb, hml, hown, hts, hr, hlocks, hK, hBs⟩ := id C
  unfold f_M_tape_b44 at hf
  refine lv_aload_n hx hb d_M_tape_44 rfl (lv_at hl 0 rfl) ?_
  have ⟨h9, hf⟩ := gd_e hf
  have ⟨x10, h11, hf⟩ := rr_e hf
  refine g_getR hx hb hts hown hK hR fl_M_217 (fun _ => rfl) h9 h11 d_M_tape_45 ?_
  refine lv_iload_n hx hb d_M_tape_48 rfl (lv_at hl 1 rfl) ?_
  refine lv_iload_n hx hb d_M_tape_49 rfl (lv_at hl 2 rfl) ?_
  have ⟨h12, hf⟩ := gd_e hf
  have ⟨h13, hf⟩ := gd_e hf
  refine g_iast hx hb hK hR hS h12 h13 d_M_tape_50 (fun H locs hR hS => ?_)
  refine g_nW hf hR (fun w14 hf hR => ?_)
  refine lv_aload_n hx hb d_M_tape_51 rfl (lv_at hl 0 rfl) ?_
  have ⟨h15, hf⟩ := gd_e hf
  have ⟨x16, h17, hf⟩ := rr_e hf
  refine g_getR hx hb hts hown hK hR fl_M_220 (fun _ => rfl) h15 h17 d_M_tape_52 ?_
  refine lv_iload_n hx hb d_M_tape_55 rfl (lv_at hl 1 rfl) ?_
  refine lv_iload_n hx hb d_M_tape_56 rfl (lv_at hl 2 rfl) ?_
  refine lv_if_ge (tgt := 64) hx hb d_M_tape_57 (by decide) (fun hc => ?_) (fun hc => ?_)
  · have hf := cd_t hc hf
    refine lv_iload_n hx hb d_M_tape_64 rfl (lv_at hl 3 rfl) ?_
    exact c_M_tape_b65 C a0 a1 a3 a1 x16 w14 (lv_sub hl [0, 1] rfl) hf hR hS
  have hf := cd_f hc hf
  refine lv_iconst (v := 0) hx hb d_M_tape_60 (by decide) ?_
  refine lv_goto (tgt := 65) hx hb d_M_tape_61 (by decide) ?_
  exact c_M_tape_b65 C a0 a1 0 a1 x16 w14 (lv_sub hl [0, 1] rfl) hf hR hS
set_option maxRecDepth 20000 in
theorem c_M_tape_b33 {r : Int32} {wz : gW} (C : gC p s m args meth c "RidCoppersModel" b_M_tape 5 (some .int) D cA oc B) (a0 : Nat) (a1 : Int32) (a2 : Int32) (a3 : Int32) (w : gW) {ls : Array Slot} {H : Heap} {locs : List Loc} (hl : lv_has ls 5 [(0, .ref (B + a0)), (1, .int a1), (2, .int a2), (3, .int a3)]) (hf : f_M_tape_b33 N a0 a1 a2 a3 w = some (r, wz)) (hR : gRep D cA B w H) (hS : va_S (gA B) s.heap H locs) : W p l e ({ frames := 3, cells := 0, slots := 0, locals := 84 } : Room) s m args below meth c H locs 0 0 (MQ below (gQi D cA B r wz) args s 0 0 (gA B)) (F0 m 33 ls []) := by
  obtain ⟨hx, hb, hml, hown, hts, hr, hlocks, hK, hBs⟩ := id C
  unfold f_M_tape_b33 at hf
  refine lv_iload_n hx hb d_M_tape_33 rfl (lv_at hl 2 rfl) ?_
  refine lv_if_lt (tgt := 44) hx hb d_M_tape_34 (by decide) (fun hc => ?_) (fun hc => ?_)
  · have hf := cd_t hc hf
    exact c_M_tape_b44 C a0 a1 a2 a3 w (lv_sub hl [0, 1, 2, 3] rfl) hf hR hS
  have hf := cd_f hc hf
  refine lv_iload_n hx hb d_M_tape_37 rfl (lv_at hl 3 rfl) ?_
  refine lv_if_ge (tgt := 44) hx hb d_M_tape_38 (by decide) (fun hc => ?_) (fun hc => ?_)
  · have hf := cd_t hc hf
    exact c_M_tape_b44 C a0 a1 a2 a3 w (lv_sub hl [0, 1, 2, 3] rfl) hf hR hS
  have hf := cd_f hc hf
  refine lv_bipush (v := (-14)) hx hb d_M_tape_41 (by decide) ?_
  exact g_iret hx hb hr hlocks hR hS hf rfl d_M_tape_43
set_option maxRecDepth 20000 in
theorem c_M_tape_b0 {r : Int32} {wz : gW} (C : gC p s m args meth c "RidCoppersModel" b_M_tape 5 (some .int) D cA oc B) (a0 : Nat) (a1 : Int32) (a2 : Int32) (a3 : Int32) (w : gW) {ls : Array Slot} {H : Heap} {locs : List Loc} (hl : lv_has ls 5 [(0, .ref (B + a0)), (1, .int a1), (2, .int a2), (3, .int a3)]) (hf : f_M_tape_b0 N a0 a1 a2 a3 w = some (r, wz)) (hR : gRep D cA B w H) (hS : va_S (gA B) s.heap H locs) : W p l e ({ frames := 3, cells := 0, slots := 0, locals := 84 } : Room) s m args below meth c H locs 0 0 (MQ below (gQi D cA B r wz) args s 0 0 (gA B)) (F0 m 0 ls []) := by
  obtain ⟨hx, hb, hml, hown, hts, hr, hlocks, hK, hBs⟩ := id C
  unfold f_M_tape_b0 at hf
  refine lv_aload_n hx hb d_M_tape_0 rfl (lv_at hl 0 rfl) ?_
  refine lv_iload_n hx hb d_M_tape_1 rfl (lv_at hl 1 rfl) ?_
  have ⟨h4, hf⟩ := gd_e hf
  have ⟨x1, w2, h3, hf⟩ := kl_e hf
  refine g_ki0 (g_rV (As := [.int a1]) (rest := []) hx hb hml hown hts hK hR hS (c_M_isTape l D cA oc B N a0 a1 w h3) I_M_isTape m_1491 mp_73 (gRecv hK hR (ci := 12) rfl h4) rfl rfl (Nat.le_of_ble_eq_true rfl) hl.1 ⟨Nat.le_of_ble_eq_true rfl, Nat.le_of_ble_eq_true rfl⟩ ⟨Nat.le_of_ble_eq_true rfl, Nat.le_of_ble_eq_true rfl⟩ d_M_tape_2) hS (fun H locs hR hS => ?_)
  refine lv_if_ne (tgt := 10) hx hb d_M_tape_5 (by decide) (fun hc => ?_) (fun hc => ?_)
  · have hf := cd_f hc hf
    refine lv_aload_n hx hb d_M_tape_10 rfl (lv_at hl 0 rfl) ?_
    refine lv_iload_n hx hb d_M_tape_11 rfl (lv_at hl 2 rfl) ?_
    refine lv_iconst (v := (-1)) hx hb d_M_tape_12 (by decide) ?_
    refine lv_iconst (v := 4) hx hb d_M_tape_13 (by decide) ?_
    have ⟨h8, hf⟩ := gd_e hf
    have ⟨x5, w6, h7, hf⟩ := kl_e hf
    refine g_ki0 (g_rV (As := [.int a2, .int (-1), .int 4]) (rest := []) hx hb hml hown hts hK hR hS (c_M_in l D cA oc B N a0 a2 (-1) 4 w2 h7) I_M_in m_1204 mp_27 (gRecv hK hR (ci := 12) rfl h8) rfl rfl (Nat.le_of_ble_eq_true rfl) hl.1 ⟨Nat.le_of_ble_eq_true rfl, Nat.le_of_ble_eq_true rfl⟩ ⟨Nat.le_of_ble_eq_true rfl, Nat.le_of_ble_eq_true rfl⟩ d_M_tape_14) hS (fun H locs hR hS => ?_)
    refine lv_if_eq (tgt := 30) hx hb d_M_tape_17 (by decide) (fun hc => ?_) (fun hc => ?_)
    · have hf := cd_t hc hf
      refine lv_bipush (v := (-2)) hx hb d_M_tape_30 (by decide) ?_
      exact g_iret hx hb hr hlocks hR hS hf rfl d_M_tape_32
    have hf := cd_f hc hf
    refine lv_iload_n hx hb d_M_tape_20 rfl (lv_at hl 2 rfl) ?_
    refine lv_if_lt (tgt := 33) hx hb d_M_tape_21 (by decide) (fun hc => ?_) (fun hc => ?_)
    · have hf := cd_t hc hf
      exact c_M_tape_b33 C a0 a1 a2 a3 w6 (lv_sub hl [0, 1, 2, 3] rfl) hf hR hS
    have hf := cd_f hc hf
    refine lv_iload_n hx hb d_M_tape_24 rfl (lv_at hl 3 rfl) ?_
    refine lv_bipush (v := 60) hx hb d_M_tape_25 (by decide) ?_
    refine lv_icmp_le (tgt := 33) hx hb d_M_tape_27 (by decide) (fun hc => ?_) (fun hc => ?_)
    · have hf := cd_t hc hf
      exact c_M_tape_b33 C a0 a1 a2 a3 w6 (lv_sub hl [0, 1, 2, 3] rfl) hf hR hS
    have hf := cd_f hc hf
    refine lv_bipush (v := (-2)) hx hb d_M_tape_30 (by decide) ?_
    exact g_iret hx hb hr hlocks hR hS hf rfl d_M_tape_32
  have hf := cd_t hc hf
  refine lv_iconst (v := (-1)) hx hb d_M_tape_8 (by decide) ?_
  exact g_iret hx hb hr hlocks hR hS hf rfl d_M_tape_9
theorem c_M_tape (l : Launch) (D : va_G) (cA : Nat → ClassId) (oc : gO) (B N : Nat) (a0 : Nat) (a1 : Int32) (a2 : Int32) (a3 : Int32) (w : gW) {wz : gW} {r : Int32} (hf : f_M_tape N a0 a1 a2 a3 w = some (r, wz)) : Met l y_M_tape (Cond.code y_M_tape b_M_tape 5 (some .int) :: lw_good) ({ frames := 3, cells := 0, slots := 0, locals := 84 } : Room) (gPre D cA oc B [.ref (B + a0), .int a1, .int a2, .int a3] w) (gQi D cA B r wz) 0 0 (gA B) := by
  refine Met.ofW (cc := b_M_tape) (maxL := 5) (ret := (some .int)) (by decide +kernel) rfl ?_
  intro p e s m args below meth c s₁ Bd hml hv
  obtain ⟨hargs, C, hR⟩ := gC.enter (l := l) rfl Bd hml hv
  subst hargs
  have hl := lv_entry ([.ref (B + a0), .int a1, .int a2, .int a3]) (n := 5) (Nat.le_of_ble_eq_true rfl)
  rw [lg_entry_eq]
  generalize (lg_sl ([.ref (B + a0), .int a1, .int a2, .int a3]) ++ List.replicate (5 - (lg_sl ([.ref (B + a0), .int a1, .int a2, .int a3])).length) Slot.unset).toArray = ls at hl ⊢
  have hl : lv_has ls 5 [(0, .ref (B + a0)), (1, .int a1), (2, .int a2), (3, .int a3)] := hl
  exact c_M_tape_b0 C a0 a1 a2 a3 w (lv_sub hl [0, 1, 2, 3] rfl) hf hR va_S.rf
theorem d_M_narrow_0 : decode b_M_narrow 0 = .ok (.iload_n 1, 1) := by decide +kernel
theorem d_M_narrow_1 : decode b_M_narrow 1 = .ok (.ifCond .ne 10, 3) := by decide +kernel
theorem d_M_narrow_4 : decode b_M_narrow 4 = .ok (.lload_n 2, 1) := by decide +kernel
theorem d_M_narrow_5 : decode b_M_narrow 5 = .ok (.l2i, 1) := by decide +kernel
theorem d_M_narrow_6 : decode b_M_narrow 6 = .ok (.i2b, 1) := by decide +kernel
theorem d_M_narrow_7 : decode b_M_narrow 7 = .ok (.i2l, 1) := by decide +kernel
theorem d_M_narrow_8 : decode b_M_narrow 8 = .ok (.goto 46, 3) := by decide +kernel
theorem d_M_narrow_11 : decode b_M_narrow 11 = .ok (.iload_n 1, 1) := by decide +kernel
theorem d_M_narrow_12 : decode b_M_narrow 12 = .ok (.iconst 1, 1) := by decide +kernel
theorem d_M_narrow_13 : decode b_M_narrow 13 = .ok (.if_icmp .ne 10, 3) := by decide +kernel
theorem d_M_narrow_16 : decode b_M_narrow 16 = .ok (.lload_n 2, 1) := by decide +kernel
theorem d_M_narrow_17 : decode b_M_narrow 17 = .ok (.l2i, 1) := by decide +kernel
theorem d_M_narrow_18 : decode b_M_narrow 18 = .ok (.i2s, 1) := by decide +kernel
theorem d_M_narrow_19 : decode b_M_narrow 19 = .ok (.i2l, 1) := by decide +kernel
theorem d_M_narrow_20 : decode b_M_narrow 20 = .ok (.goto 34, 3) := by decide +kernel
theorem d_M_narrow_23 : decode b_M_narrow 23 = .ok (.iload_n 1, 1) := by decide +kernel
theorem d_M_narrow_24 : decode b_M_narrow 24 = .ok (.iconst 2, 1) := by decide +kernel
theorem d_M_narrow_25 : decode b_M_narrow 25 = .ok (.if_icmp .ne 9, 3) := by decide +kernel
theorem d_M_narrow_28 : decode b_M_narrow 28 = .ok (.lload_n 2, 1) := by decide +kernel
theorem d_M_narrow_29 : decode b_M_narrow 29 = .ok (.l2i, 1) := by decide +kernel
theorem d_M_narrow_30 : decode b_M_narrow 30 = .ok (.i2l, 1) := by decide +kernel
theorem d_M_narrow_31 : decode b_M_narrow 31 = .ok (.goto 23, 3) := by decide +kernel
theorem d_M_narrow_34 : decode b_M_narrow 34 = .ok (.iload_n 1, 1) := by decide +kernel
theorem d_M_narrow_35 : decode b_M_narrow 35 = .ok (.iconst 4, 1) := by decide +kernel
theorem d_M_narrow_36 : decode b_M_narrow 36 = .ok (.if_icmp .ne 17, 3) := by decide +kernel
theorem d_M_narrow_39 : decode b_M_narrow 39 = .ok (.lload_n 2, 1) := by decide +kernel
theorem d_M_narrow_40 : decode b_M_narrow 40 = .ok (.lconst 0, 1) := by decide +kernel
theorem d_M_narrow_41 : decode b_M_narrow 41 = .ok (.lcmp, 1) := by decide +kernel
theorem d_M_narrow_42 : decode b_M_narrow 42 = .ok (.ifCond .eq 7, 3) := by decide +kernel
theorem d_M_narrow_45 : decode b_M_narrow 45 = .ok (.lconst 1, 1) := by decide +kernel
theorem d_M_narrow_46 : decode b_M_narrow 46 = .ok (.goto 8, 3) := by decide +kernel
theorem d_M_narrow_49 : decode b_M_narrow 49 = .ok (.lconst 0, 1) := by decide +kernel
theorem d_M_narrow_50 : decode b_M_narrow 50 = .ok (.goto 4, 3) := by decide +kernel
theorem d_M_narrow_53 : decode b_M_narrow 53 = .ok (.lload_n 2, 1) := by decide +kernel
theorem d_M_narrow_54 : decode b_M_narrow 54 = .ok (.lreturn, 1) := by decide +kernel
set_option maxRecDepth 20000 in
theorem c_M_narrow_b0 {r : Int64} {wz : gW} (C : gC p s m args meth c "RidCoppersModel" b_M_narrow 4 (some .long) D cA oc B) (a1 : Int32) (a2 : Int64) (w : gW) {ls : Array Slot} {H : Heap} {locs : List Loc} (hl : lv_has ls 4 [(1, .int a1), (2, .long a2)]) (hf : f_M_narrow_b0 N a1 a2 w = some (r, wz)) (hR : gRep D cA B w H) (hS : va_S (gA B) s.heap H locs) : W p l e ({ frames := 1, cells := 0, slots := 0, locals := 40 } : Room) s m args below meth c H locs 0 0 (MQ below (gQl D cA B r wz) args s 0 0 (gA B)) (F0 m 0 ls []) := by
  obtain ⟨hx, hb, hml, hown, hts, hr, hlocks, hK, hBs⟩ := id C
  unfold f_M_narrow_b0 at hf
  refine lv_iload_n hx hb d_M_narrow_0 rfl (lv_at hl 0 rfl) ?_
  refine lv_if_ne (tgt := 11) hx hb d_M_narrow_1 (by decide) (fun hc => ?_) (fun hc => ?_)
  · have hf := cd_f hc hf
    refine lv_iload_n hx hb d_M_narrow_11 rfl (lv_at hl 0 rfl) ?_
    refine lv_iconst (v := 1) hx hb d_M_narrow_12 (by decide) ?_
    refine lv_icmp_ne (tgt := 23) hx hb d_M_narrow_13 (by decide) (fun hc => ?_) (fun hc => ?_)
    · have hf := cd_f hc hf
      refine lv_iload_n hx hb d_M_narrow_23 rfl (lv_at hl 0 rfl) ?_
      refine lv_iconst (v := 2) hx hb d_M_narrow_24 (by decide) ?_
      refine lv_icmp_ne (tgt := 34) hx hb d_M_narrow_25 (by decide) (fun hc => ?_) (fun hc => ?_)
      · have hf := cd_f hc hf
        refine lv_iload_n hx hb d_M_narrow_34 rfl (lv_at hl 0 rfl) ?_
        refine lv_iconst (v := 4) hx hb d_M_narrow_35 (by decide) ?_
        refine lv_icmp_ne (tgt := 53) hx hb d_M_narrow_36 (by decide) (fun hc => ?_) (fun hc => ?_)
        · have hf := cd_f hc hf
          refine lv_lload_n hx hb d_M_narrow_53 rfl (lv_at hl 1 rfl) ?_
          exact g_lret hx hb hr hlocks hR hS hf d_M_narrow_54
        have hf := cd_t hc hf
        refine lv_lload_n hx hb d_M_narrow_39 rfl (lv_at hl 1 rfl) ?_
        refine lv_lconst (v := 0) hx hb d_M_narrow_40 (by decide) ?_
        refine W.lcmp hx hb d_M_narrow_41 ?_
        refine g_nI hf (fun x1 hf => ?_)
        refine lv_if_eq (tgt := 49) hx hb d_M_narrow_42 (by decide) (fun hc => ?_) (fun hc => ?_)
        · have hf := cd_t hc hf
          refine lv_lconst (v := 0) hx hb d_M_narrow_49 (by decide) ?_
          refine lv_goto (tgt := 54) hx hb d_M_narrow_50 (by decide) ?_
          exact g_lret hx hb hr hlocks hR hS hf d_M_narrow_54
        have hf := cd_f hc hf
        refine lv_lconst (v := 1) hx hb d_M_narrow_45 (by decide) ?_
        refine lv_goto (tgt := 54) hx hb d_M_narrow_46 (by decide) ?_
        exact g_lret hx hb hr hlocks hR hS hf d_M_narrow_54
      have hf := cd_t hc hf
      refine lv_lload_n hx hb d_M_narrow_28 rfl (lv_at hl 1 rfl) ?_
      refine lv_l2i hx hb d_M_narrow_29 rfl ?_
      refine g_nI hf (fun x2 hf => ?_)
      refine lv_i2l hx hb d_M_narrow_30 rfl ?_
      refine g_nL hf (fun x3 hf => ?_)
      refine lv_goto (tgt := 54) hx hb d_M_narrow_31 (by decide) ?_
      exact g_lret hx hb hr hlocks hR hS hf d_M_narrow_54
    have hf := cd_t hc hf
    refine lv_lload_n hx hb d_M_narrow_16 rfl (lv_at hl 1 rfl) ?_
    refine lv_l2i hx hb d_M_narrow_17 rfl ?_
    refine g_nI hf (fun x4 hf => ?_)
    refine lv_i2s hx hb d_M_narrow_18 rfl ?_
    refine g_nI hf (fun x5 hf => ?_)
    refine lv_i2l hx hb d_M_narrow_19 rfl ?_
    refine g_nL hf (fun x6 hf => ?_)
    refine lv_goto (tgt := 54) hx hb d_M_narrow_20 (by decide) ?_
    exact g_lret hx hb hr hlocks hR hS hf d_M_narrow_54
  have hf := cd_t hc hf
  refine lv_lload_n hx hb d_M_narrow_4 rfl (lv_at hl 1 rfl) ?_
  refine lv_l2i hx hb d_M_narrow_5 rfl ?_
  refine g_nI hf (fun x7 hf => ?_)
  refine lv_i2b hx hb d_M_narrow_6 rfl ?_
  refine g_nI hf (fun x8 hf => ?_)
  refine lv_i2l hx hb d_M_narrow_7 rfl ?_
  refine g_nL hf (fun x9 hf => ?_)
  refine lv_goto (tgt := 54) hx hb d_M_narrow_8 (by decide) ?_
  exact g_lret hx hb hr hlocks hR hS hf d_M_narrow_54
theorem c_M_narrow (l : Launch) (D : va_G) (cA : Nat → ClassId) (oc : gO) (B N : Nat) (a0 : Nat) (a1 : Int32) (a2 : Int64) (w : gW) {wz : gW} {r : Int64} (hf : f_M_narrow N a0 a1 a2 w = some (r, wz)) : Met l y_M_narrow (Cond.code y_M_narrow b_M_narrow 4 (some .long) :: lw_good) ({ frames := 1, cells := 0, slots := 0, locals := 40 } : Room) (gPre D cA oc B [.ref (B + a0), .int a1, .long a2] w) (gQl D cA B r wz) 0 0 (gA B) := by
  refine Met.ofW (cc := b_M_narrow) (maxL := 4) (ret := (some .long)) (by decide +kernel) rfl ?_
  intro p e s m args below meth c s₁ Bd hml hv
  obtain ⟨hargs, C, hR⟩ := gC.enter (l := l) rfl Bd hml hv
  subst hargs
  have hl := lv_entry ([.ref (B + a0), .int a1, .long a2]) (n := 4) (Nat.le_of_ble_eq_true rfl)
  rw [lg_entry_eq]
  generalize (lg_sl ([.ref (B + a0), .int a1, .long a2]) ++ List.replicate (4 - (lg_sl ([.ref (B + a0), .int a1, .long a2])).length) Slot.unset).toArray = ls at hl ⊢
  have hl : lv_has ls 4 [(0, .ref (B + a0)), (1, .int a1), (2, .long a2)] := hl
  exact c_M_narrow_b0 C a1 a2 w (lv_sub hl [1, 2] rfl) hf hR va_S.rf
theorem d_M_item_0 : decode b_M_item 0 = .ok (.aload_n 0, 1) := by decide +kernel
theorem d_M_item_1 : decode b_M_item 1 = .ok (.iload_n 1, 1) := by decide +kernel
theorem d_M_item_2 : decode b_M_item 2 = .ok (.invokevirtual 383, 3) := by decide +kernel
theorem d_M_item_5 : decode b_M_item 5 = .ok (.ifCond .ne 5, 3) := by decide +kernel
theorem d_M_item_8 : decode b_M_item 8 = .ok (.iconst (-1), 1) := by decide +kernel
theorem d_M_item_9 : decode b_M_item 9 = .ok (.ireturn, 1) := by decide +kernel
theorem d_M_item_10 : decode b_M_item 10 = .ok (.aload_n 0, 1) := by decide +kernel
theorem d_M_item_11 : decode b_M_item 11 = .ok (.getfield 217, 3) := by decide +kernel
theorem d_M_item_14 : decode b_M_item 14 = .ok (.iload_n 1, 1) := by decide +kernel
theorem d_M_item_15 : decode b_M_item 15 = .ok (.iaload, 1) := by decide +kernel
theorem d_M_item_16 : decode b_M_item 16 = .ok (.ifCond .ge 6, 3) := by decide +kernel
theorem d_M_item_19 : decode b_M_item 19 = .ok (.bipush (-11), 2) := by decide +kernel
theorem d_M_item_21 : decode b_M_item 21 = .ok (.ireturn, 1) := by decide +kernel
theorem d_M_item_22 : decode b_M_item 22 = .ok (.aload_n 0, 1) := by decide +kernel
theorem d_M_item_23 : decode b_M_item 23 = .ok (.iload_n 2, 1) := by decide +kernel
theorem d_M_item_24 : decode b_M_item 24 = .ok (.iconst 0, 1) := by decide +kernel
theorem d_M_item_25 : decode b_M_item 25 = .ok (.aload_n 0, 1) := by decide +kernel
theorem d_M_item_26 : decode b_M_item 26 = .ok (.getfield 220, 3) := by decide +kernel
theorem d_M_item_29 : decode b_M_item 29 = .ok (.iload_n 1, 1) := by decide +kernel
theorem d_M_item_30 : decode b_M_item 30 = .ok (.iaload, 1) := by decide +kernel
theorem d_M_item_31 : decode b_M_item 31 = .ok (.iconst 1, 1) := by decide +kernel
theorem d_M_item_32 : decode b_M_item 32 = .ok (.isub, 1) := by decide +kernel
theorem d_M_item_33 : decode b_M_item 33 = .ok (.invokevirtual 230, 3) := by decide +kernel
theorem d_M_item_36 : decode b_M_item 36 = .ok (.ifCond .ne 6, 3) := by decide +kernel
theorem d_M_item_39 : decode b_M_item 39 = .ok (.bipush (-13), 2) := by decide +kernel
theorem d_M_item_41 : decode b_M_item 41 = .ok (.ireturn, 1) := by decide +kernel
theorem d_M_item_42 : decode b_M_item 42 = .ok (.aload_n 0, 1) := by decide +kernel
theorem d_M_item_43 : decode b_M_item 43 = .ok (.getfield 223, 3) := by decide +kernel
theorem d_M_item_46 : decode b_M_item 46 = .ok (.bipush 60, 2) := by decide +kernel
theorem d_M_item_48 : decode b_M_item 48 = .ok (.iload_n 1, 1) := by decide +kernel
theorem d_M_item_49 : decode b_M_item 49 = .ok (.imul, 1) := by decide +kernel
theorem d_M_item_50 : decode b_M_item 50 = .ok (.iload_n 2, 1) := by decide +kernel
theorem d_M_item_51 : decode b_M_item 51 = .ok (.iadd, 1) := by decide +kernel
theorem d_M_item_52 : decode b_M_item 52 = .ok (.aload_n 0, 1) := by decide +kernel
theorem d_M_item_53 : decode b_M_item 53 = .ok (.aload_n 0, 1) := by decide +kernel
theorem d_M_item_54 : decode b_M_item 54 = .ok (.getfield 217, 3) := by decide +kernel
theorem d_M_item_57 : decode b_M_item 57 = .ok (.iload_n 1, 1) := by decide +kernel
theorem d_M_item_58 : decode b_M_item 58 = .ok (.iaload, 1) := by decide +kernel
theorem d_M_item_59 : decode b_M_item 59 = .ok (.lload_n 3, 1) := by decide +kernel
theorem d_M_item_60 : decode b_M_item 60 = .ok (.invokevirtual 410, 3) := by decide +kernel
theorem d_M_item_63 : decode b_M_item 63 = .ok (.lastore, 1) := by decide +kernel
theorem d_M_item_64 : decode b_M_item 64 = .ok (.iconst 1, 1) := by decide +kernel
theorem d_M_item_65 : decode b_M_item 65 = .ok (.ireturn, 1) := by decide +kernel
set_option maxRecDepth 20000 in
theorem c_M_item_b0 {r : Int32} {wz : gW} (C : gC p s m args meth c "RidCoppersModel" b_M_item 5 (some .int) D cA oc B) (a0 : Nat) (a1 : Int32) (a2 : Int32) (a3 : Int64) (w : gW) {ls : Array Slot} {H : Heap} {locs : List Loc} (hl : lv_has ls 5 [(0, .ref (B + a0)), (1, .int a1), (2, .int a2), (3, .long a3)]) (hf : f_M_item_b0 N a0 a1 a2 a3 w = some (r, wz)) (hR : gRep D cA B w H) (hS : va_S (gA B) s.heap H locs) : W p l e ({ frames := 3, cells := 0, slots := 0, locals := 84 } : Room) s m args below meth c H locs 0 0 (MQ below (gQi D cA B r wz) args s 0 0 (gA B)) (F0 m 0 ls []) := by
  obtain ⟨hx, hb, hml, hown, hts, hr, hlocks, hK, hBs⟩ := id C
  unfold f_M_item_b0 at hf
  refine lv_aload_n hx hb d_M_item_0 rfl (lv_at hl 0 rfl) ?_
  refine lv_iload_n hx hb d_M_item_1 rfl (lv_at hl 1 rfl) ?_
  have ⟨h4, hf⟩ := gd_e hf
  have ⟨x1, w2, h3, hf⟩ := kl_e hf
  refine g_ki0 (g_rV (As := [.int a1]) (rest := []) hx hb hml hown hts hK hR hS (c_M_isTape l D cA oc B N a0 a1 w h3) I_M_isTape m_1491 mp_73 (gRecv hK hR (ci := 12) rfl h4) rfl rfl (Nat.le_of_ble_eq_true rfl) hl.1 ⟨Nat.le_of_ble_eq_true rfl, Nat.le_of_ble_eq_true rfl⟩ ⟨Nat.le_of_ble_eq_true rfl, Nat.le_of_ble_eq_true rfl⟩ d_M_item_2) hS (fun H locs hR hS => ?_)
  refine lv_if_ne (tgt := 10) hx hb d_M_item_5 (by decide) (fun hc => ?_) (fun hc => ?_)
  · have hf := cd_f hc hf
    refine lv_aload_n hx hb d_M_item_10 rfl (lv_at hl 0 rfl) ?_
    have ⟨h5, hf⟩ := gd_e hf
    have ⟨x6, h7, hf⟩ := rr_e hf
    refine g_getR hx hb hts hown hK hR fl_M_217 (fun _ => rfl) h5 h7 d_M_item_11 ?_
    refine lv_iload_n hx hb d_M_item_14 rfl (lv_at hl 1 rfl) ?_
    have ⟨h8, hf⟩ := gd_e hf
    have ⟨h9, hf⟩ := gd_e hf
    refine g_iald hx hb hK hR h8 h9 d_M_item_15 ?_
    refine g_nI hf (fun x10 hf => ?_)
    refine lv_if_ge (tgt := 22) hx hb d_M_item_16 (by decide) (fun hc => ?_) (fun hc => ?_)
    · have hf := cd_t hc hf
      refine lv_aload_n hx hb d_M_item_22 rfl (lv_at hl 0 rfl) ?_
      refine lv_iload_n hx hb d_M_item_23 rfl (lv_at hl 2 rfl) ?_
      refine lv_iconst (v := 0) hx hb d_M_item_24 (by decide) ?_
      refine lv_aload_n hx hb d_M_item_25 rfl (lv_at hl 0 rfl) ?_
      have ⟨x11, h12, hf⟩ := rr_e hf
      refine g_getR hx hb hts hown hK hR fl_M_220 (fun _ => rfl) h5 h12 d_M_item_26 ?_
      refine lv_iload_n hx hb d_M_item_29 rfl (lv_at hl 1 rfl) ?_
      have ⟨h13, hf⟩ := gd_e hf
      have ⟨h14, hf⟩ := gd_e hf
      refine g_iald hx hb hK hR h13 h14 d_M_item_30 ?_
      refine g_nI hf (fun x15 hf => ?_)
      refine lv_iconst (v := 1) hx hb d_M_item_31 (by decide) ?_
      refine lv_isub hx hb d_M_item_32 ?_
      refine g_nI hf (fun x16 hf => ?_)
      have ⟨x17, w18, h19, hf⟩ := kl_e hf
      refine g_ki0 (g_rV (As := [.int a2, .int 0, .int x16]) (rest := []) hx hb hml hown hts hK hR hS (c_M_in l D cA oc B N a0 a2 0 x16 w2 h19) I_M_in m_1204 mp_27 (gRecv hK hR (ci := 12) rfl h5) rfl rfl (Nat.le_of_ble_eq_true rfl) hl.1 ⟨Nat.le_of_ble_eq_true rfl, Nat.le_of_ble_eq_true rfl⟩ ⟨Nat.le_of_ble_eq_true rfl, Nat.le_of_ble_eq_true rfl⟩ d_M_item_33) hS (fun H locs hR hS => ?_)
      refine lv_if_ne (tgt := 42) hx hb d_M_item_36 (by decide) (fun hc => ?_) (fun hc => ?_)
      · have hf := cd_f hc hf
        refine lv_aload_n hx hb d_M_item_42 rfl (lv_at hl 0 rfl) ?_
        have ⟨h20, hf⟩ := gd_e hf
        have ⟨x21, h22, hf⟩ := rr_e hf
        refine g_getR hx hb hts hown hK hR fl_M_223 (fun _ => rfl) h20 h22 d_M_item_43 ?_
        refine lv_bipush (v := 60) hx hb d_M_item_46 (by decide) ?_
        refine lv_iload_n hx hb d_M_item_48 rfl (lv_at hl 1 rfl) ?_
        refine lv_imul hx hb d_M_item_49 ?_
        refine g_nI hf (fun x23 hf => ?_)
        refine lv_iload_n hx hb d_M_item_50 rfl (lv_at hl 2 rfl) ?_
        refine lv_iadd hx hb d_M_item_51 ?_
        refine g_nI hf (fun x24 hf => ?_)
        refine lv_aload_n hx hb d_M_item_52 rfl (lv_at hl 0 rfl) ?_
        refine lv_aload_n hx hb d_M_item_53 rfl (lv_at hl 0 rfl) ?_
        have ⟨x25, h26, hf⟩ := rr_e hf
        refine g_getR hx hb hts hown hK hR fl_M_217 (fun _ => rfl) h20 h26 d_M_item_54 ?_
        refine lv_iload_n hx hb d_M_item_57 rfl (lv_at hl 1 rfl) ?_
        have ⟨h27, hf⟩ := gd_e hf
        have ⟨h28, hf⟩ := gd_e hf
        refine g_iald hx hb hK hR h27 h28 d_M_item_58 ?_
        refine g_nI hf (fun x29 hf => ?_)
        refine lv_lload_n hx hb d_M_item_59 rfl (lv_at hl 3 rfl) ?_
        have ⟨x30, w31, h32, hf⟩ := kl_e hf
        refine g_kl0 (g_rV (As := [.int x29, .long a3]) (rest := [.int x24, .ref (B + x21)]) hx hb hml hown hts hK hR hS (c_M_narrow l D cA oc B N a0 x29 a3 w18 h32) I_M_narrow m_1559 mp_82 (gRecv hK hR (ci := 12) rfl h20) rfl rfl (Nat.le_of_ble_eq_true rfl) hl.1 ⟨Nat.le_of_ble_eq_true rfl, Nat.le_of_ble_eq_true rfl⟩ ⟨Nat.le_of_ble_eq_true rfl, Nat.le_of_ble_eq_true rfl⟩ d_M_item_60) hS (fun H locs hR hS => ?_)
        have ⟨h33, hf⟩ := gd_e hf
        have ⟨h34, hf⟩ := gd_e hf
        refine g_last hx hb hK hR hS h33 h34 d_M_item_63 (fun H locs hR hS => ?_)
        refine g_nW hf hR (fun w35 hf hR => ?_)
        refine lv_iconst (v := 1) hx hb d_M_item_64 (by decide) ?_
        exact g_iret hx hb hr hlocks hR hS hf rfl d_M_item_65
      have hf := cd_t hc hf
      refine lv_bipush (v := (-13)) hx hb d_M_item_39 (by decide) ?_
      exact g_iret hx hb hr hlocks hR hS hf rfl d_M_item_41
    have hf := cd_f hc hf
    refine lv_bipush (v := (-11)) hx hb d_M_item_19 (by decide) ?_
    exact g_iret hx hb hr hlocks hR hS hf rfl d_M_item_21
  have hf := cd_t hc hf
  refine lv_iconst (v := (-1)) hx hb d_M_item_8 (by decide) ?_
  exact g_iret hx hb hr hlocks hR hS hf rfl d_M_item_9
theorem c_M_item (l : Launch) (D : va_G) (cA : Nat → ClassId) (oc : gO) (B N : Nat) (a0 : Nat) (a1 : Int32) (a2 : Int32) (a3 : Int64) (w : gW) {wz : gW} {r : Int32} (hf : f_M_item N a0 a1 a2 a3 w = some (r, wz)) : Met l y_M_item (Cond.code y_M_item b_M_item 5 (some .int) :: lw_good) ({ frames := 3, cells := 0, slots := 0, locals := 84 } : Room) (gPre D cA oc B [.ref (B + a0), .int a1, .int a2, .long a3] w) (gQi D cA B r wz) 0 0 (gA B) := by
  refine Met.ofW (cc := b_M_item) (maxL := 5) (ret := (some .int)) (by decide +kernel) rfl ?_
  intro p e s m args below meth c s₁ Bd hml hv
  obtain ⟨hargs, C, hR⟩ := gC.enter (l := l) rfl Bd hml hv
  subst hargs
  have hl := lv_entry ([.ref (B + a0), .int a1, .int a2, .long a3]) (n := 5) (Nat.le_of_ble_eq_true rfl)
  rw [lg_entry_eq]
  generalize (lg_sl ([.ref (B + a0), .int a1, .int a2, .long a3]) ++ List.replicate (5 - (lg_sl ([.ref (B + a0), .int a1, .int a2, .long a3])).length) Slot.unset).toArray = ls at hl ⊢
  have hl : lv_has ls 5 [(0, .ref (B + a0)), (1, .int a1), (2, .int a2), (3, .long a3)] := hl
  exact c_M_item_b0 C a0 a1 a2 a3 w (lv_sub hl [0, 1, 2, 3] rfl) hf hR va_S.rf
theorem d_M_read_0 : decode b_M_read 0 = .ok (.aload_n 0, 1) := by decide +kernel
theorem d_M_read_1 : decode b_M_read 1 = .ok (.iload_n 1, 1) := by decide +kernel
theorem d_M_read_2 : decode b_M_read 2 = .ok (.invokevirtual 383, 3) := by decide +kernel
theorem d_M_read_5 : decode b_M_read 5 = .ok (.ifCond .eq 29, 3) := by decide +kernel
theorem d_M_read_8 : decode b_M_read 8 = .ok (.aload_n 0, 1) := by decide +kernel
theorem d_M_read_9 : decode b_M_read 9 = .ok (.getfield 217, 3) := by decide +kernel
theorem d_M_read_12 : decode b_M_read 12 = .ok (.iload_n 1, 1) := by decide +kernel
theorem d_M_read_13 : decode b_M_read 13 = .ok (.iaload, 1) := by decide +kernel
theorem d_M_read_14 : decode b_M_read 14 = .ok (.ifCond .lt 20, 3) := by decide +kernel
theorem d_M_read_17 : decode b_M_read 17 = .ok (.aload_n 0, 1) := by decide +kernel
theorem d_M_read_18 : decode b_M_read 18 = .ok (.iload_n 2, 1) := by decide +kernel
theorem d_M_read_19 : decode b_M_read 19 = .ok (.iconst 0, 1) := by decide +kernel
theorem d_M_read_20 : decode b_M_read 20 = .ok (.aload_n 0, 1) := by decide +kernel
theorem d_M_read_21 : decode b_M_read 21 = .ok (.getfield 220, 3) := by decide +kernel
theorem d_M_read_24 : decode b_M_read 24 = .ok (.iload_n 1, 1) := by decide +kernel
theorem d_M_read_25 : decode b_M_read 25 = .ok (.iaload, 1) := by decide +kernel
theorem d_M_read_26 : decode b_M_read 26 = .ok (.iconst 1, 1) := by decide +kernel
theorem d_M_read_27 : decode b_M_read 27 = .ok (.isub, 1) := by decide +kernel
theorem d_M_read_28 : decode b_M_read 28 = .ok (.invokevirtual 230, 3) := by decide +kernel
theorem d_M_read_31 : decode b_M_read 31 = .ok (.ifCond .ne 9, 3) := by decide +kernel
theorem d_M_read_34 : decode b_M_read 34 = .ok (.ldc2_w 377, 3) := by decide +kernel
theorem d_M_read_37 : decode b_M_read 37 = .ok (.goto 14, 3) := by decide +kernel
theorem d_M_read_40 : decode b_M_read 40 = .ok (.aload_n 0, 1) := by decide +kernel
theorem d_M_read_41 : decode b_M_read 41 = .ok (.getfield 223, 3) := by decide +kernel
theorem d_M_read_44 : decode b_M_read 44 = .ok (.bipush 60, 2) := by decide +kernel
theorem d_M_read_46 : decode b_M_read 46 = .ok (.iload_n 1, 1) := by decide +kernel
theorem d_M_read_47 : decode b_M_read 47 = .ok (.imul, 1) := by decide +kernel
theorem d_M_read_48 : decode b_M_read 48 = .ok (.iload_n 2, 1) := by decide +kernel
theorem d_M_read_49 : decode b_M_read 49 = .ok (.iadd, 1) := by decide +kernel
theorem d_M_read_50 : decode b_M_read 50 = .ok (.laload, 1) := by decide +kernel
theorem d_M_read_51 : decode b_M_read 51 = .ok (.lreturn, 1) := by decide +kernel
set_option maxRecDepth 20000 in
theorem c_M_read_b0 {r : Int64} {wz : gW} (C : gC p s m args meth c "RidCoppersModel" b_M_read 3 (some .long) D cA oc B) (a0 : Nat) (a1 : Int32) (a2 : Int32) (w : gW) {ls : Array Slot} {H : Heap} {locs : List Loc} (hl : lv_has ls 3 [(0, .ref (B + a0)), (1, .int a1), (2, .int a2)]) (hf : f_M_read_b0 N a0 a1 a2 w = some (r, wz)) (hR : gRep D cA B w H) (hS : va_S (gA B) s.heap H locs) : W p l e ({ frames := 3, cells := 0, slots := 0, locals := 84 } : Room) s m args below meth c H locs 0 0 (MQ below (gQl D cA B r wz) args s 0 0 (gA B)) (F0 m 0 ls []) := by
  obtain ⟨hx, hb, hml, hown, hts, hr, hlocks, hK, hBs⟩ := id C
  unfold f_M_read_b0 at hf
  refine lv_aload_n hx hb d_M_read_0 rfl (lv_at hl 0 rfl) ?_
  refine lv_iload_n hx hb d_M_read_1 rfl (lv_at hl 1 rfl) ?_
  have ⟨h4, hf⟩ := gd_e hf
  have ⟨x1, w2, h3, hf⟩ := kl_e hf
  refine g_ki0 (g_rV (As := [.int a1]) (rest := []) hx hb hml hown hts hK hR hS (c_M_isTape l D cA oc B N a0 a1 w h3) I_M_isTape m_1491 mp_73 (gRecv hK hR (ci := 12) rfl h4) rfl rfl (Nat.le_of_ble_eq_true rfl) hl.1 ⟨Nat.le_of_ble_eq_true rfl, Nat.le_of_ble_eq_true rfl⟩ ⟨Nat.le_of_ble_eq_true rfl, Nat.le_of_ble_eq_true rfl⟩ d_M_read_2) hS (fun H locs hR hS => ?_)
  refine lv_if_eq (tgt := 34) hx hb d_M_read_5 (by decide) (fun hc => ?_) (fun hc => ?_)
  · have hf := cd_t hc hf
    refine lv_ldc2 hx hb hown (hts _ m_1466) d_M_read_34 ?_
    refine lv_goto (tgt := 51) hx hb d_M_read_37 (by decide) ?_
    exact g_lret hx hb hr hlocks hR hS hf d_M_read_51
  have hf := cd_f hc hf
  refine lv_aload_n hx hb d_M_read_8 rfl (lv_at hl 0 rfl) ?_
  have ⟨h5, hf⟩ := gd_e hf
  have ⟨x6, h7, hf⟩ := rr_e hf
  refine g_getR hx hb hts hown hK hR fl_M_217 (fun _ => rfl) h5 h7 d_M_read_9 ?_
  refine lv_iload_n hx hb d_M_read_12 rfl (lv_at hl 1 rfl) ?_
  have ⟨h8, hf⟩ := gd_e hf
  have ⟨h9, hf⟩ := gd_e hf
  refine g_iald hx hb hK hR h8 h9 d_M_read_13 ?_
  refine g_nI hf (fun x10 hf => ?_)
  refine lv_if_lt (tgt := 34) hx hb d_M_read_14 (by decide) (fun hc => ?_) (fun hc => ?_)
  · have hf := cd_t hc hf
    refine lv_ldc2 hx hb hown (hts _ m_1466) d_M_read_34 ?_
    refine lv_goto (tgt := 51) hx hb d_M_read_37 (by decide) ?_
    exact g_lret hx hb hr hlocks hR hS hf d_M_read_51
  have hf := cd_f hc hf
  refine lv_aload_n hx hb d_M_read_17 rfl (lv_at hl 0 rfl) ?_
  refine lv_iload_n hx hb d_M_read_18 rfl (lv_at hl 2 rfl) ?_
  refine lv_iconst (v := 0) hx hb d_M_read_19 (by decide) ?_
  refine lv_aload_n hx hb d_M_read_20 rfl (lv_at hl 0 rfl) ?_
  have ⟨x11, h12, hf⟩ := rr_e hf
  refine g_getR hx hb hts hown hK hR fl_M_220 (fun _ => rfl) h5 h12 d_M_read_21 ?_
  refine lv_iload_n hx hb d_M_read_24 rfl (lv_at hl 1 rfl) ?_
  have ⟨h13, hf⟩ := gd_e hf
  have ⟨h14, hf⟩ := gd_e hf
  refine g_iald hx hb hK hR h13 h14 d_M_read_25 ?_
  refine g_nI hf (fun x15 hf => ?_)
  refine lv_iconst (v := 1) hx hb d_M_read_26 (by decide) ?_
  refine lv_isub hx hb d_M_read_27 ?_
  refine g_nI hf (fun x16 hf => ?_)
  have ⟨x17, w18, h19, hf⟩ := kl_e hf
  refine g_ki0 (g_rV (As := [.int a2, .int 0, .int x16]) (rest := []) hx hb hml hown hts hK hR hS (c_M_in l D cA oc B N a0 a2 0 x16 w2 h19) I_M_in m_1204 mp_27 (gRecv hK hR (ci := 12) rfl h5) rfl rfl (Nat.le_of_ble_eq_true rfl) hl.1 ⟨Nat.le_of_ble_eq_true rfl, Nat.le_of_ble_eq_true rfl⟩ ⟨Nat.le_of_ble_eq_true rfl, Nat.le_of_ble_eq_true rfl⟩ d_M_read_28) hS (fun H locs hR hS => ?_)
  refine lv_if_ne (tgt := 40) hx hb d_M_read_31 (by decide) (fun hc => ?_) (fun hc => ?_)
  · have hf := cd_f hc hf
    refine lv_aload_n hx hb d_M_read_40 rfl (lv_at hl 0 rfl) ?_
    have ⟨h20, hf⟩ := gd_e hf
    have ⟨x21, h22, hf⟩ := rr_e hf
    refine g_getR hx hb hts hown hK hR fl_M_223 (fun _ => rfl) h20 h22 d_M_read_41 ?_
    refine lv_bipush (v := 60) hx hb d_M_read_44 (by decide) ?_
    refine lv_iload_n hx hb d_M_read_46 rfl (lv_at hl 1 rfl) ?_
    refine lv_imul hx hb d_M_read_47 ?_
    refine g_nI hf (fun x23 hf => ?_)
    refine lv_iload_n hx hb d_M_read_48 rfl (lv_at hl 2 rfl) ?_
    refine lv_iadd hx hb d_M_read_49 ?_
    refine g_nI hf (fun x24 hf => ?_)
    have ⟨h25, hf⟩ := gd_e hf
    have ⟨h26, hf⟩ := gd_e hf
    refine g_lald hx hb hK hR h25 h26 d_M_read_50 ?_
    refine g_nL hf (fun x27 hf => ?_)
    exact g_lret hx hb hr hlocks hR hS hf d_M_read_51
  have hf := cd_t hc hf
  refine lv_ldc2 hx hb hown (hts _ m_1466) d_M_read_34 ?_
  refine lv_goto (tgt := 51) hx hb d_M_read_37 (by decide) ?_
  exact g_lret hx hb hr hlocks hR hS hf d_M_read_51
theorem c_M_read (l : Launch) (D : va_G) (cA : Nat → ClassId) (oc : gO) (B N : Nat) (a0 : Nat) (a1 : Int32) (a2 : Int32) (w : gW) {wz : gW} {r : Int64} (hf : f_M_read N a0 a1 a2 w = some (r, wz)) : Met l y_M_read (Cond.code y_M_read b_M_read 3 (some .long) :: lw_good) ({ frames := 3, cells := 0, slots := 0, locals := 84 } : Room) (gPre D cA oc B [.ref (B + a0), .int a1, .int a2] w) (gQl D cA B r wz) 0 0 (gA B) := by
  refine Met.ofW (cc := b_M_read) (maxL := 3) (ret := (some .long)) (by decide +kernel) rfl ?_
  intro p e s m args below meth c s₁ Bd hml hv
  obtain ⟨hargs, C, hR⟩ := gC.enter (l := l) rfl Bd hml hv
  subst hargs
  have hl := lv_entry ([.ref (B + a0), .int a1, .int a2]) (n := 3) (Nat.le_of_ble_eq_true rfl)
  rw [lg_entry_eq]
  generalize (lg_sl ([.ref (B + a0), .int a1, .int a2]) ++ List.replicate (3 - (lg_sl ([.ref (B + a0), .int a1, .int a2])).length) Slot.unset).toArray = ls at hl ⊢
  have hl : lv_has ls 3 [(0, .ref (B + a0)), (1, .int a1), (2, .int a2)] := hl
  exact c_M_read_b0 C a0 a1 a2 w (lv_sub hl [0, 1, 2] rfl) hf hR va_S.rf
theorem d_M_shift_0 : decode b_M_shift 0 = .ok (.aload_n 0, 1) := by decide +kernel
theorem d_M_shift_1 : decode b_M_shift 1 = .ok (.iload_n 1, 1) := by decide +kernel
theorem d_M_shift_2 : decode b_M_shift 2 = .ok (.invokevirtual 383, 3) := by decide +kernel
theorem d_M_shift_5 : decode b_M_shift 5 = .ok (.ifCond .eq 11, 3) := by decide +kernel
theorem d_M_shift_8 : decode b_M_shift 8 = .ok (.aload_n 0, 1) := by decide +kernel
theorem d_M_shift_9 : decode b_M_shift 9 = .ok (.iload_n 3, 1) := by decide +kernel
theorem d_M_shift_10 : decode b_M_shift 10 = .ok (.invokevirtual 383, 3) := by decide +kernel
theorem d_M_shift_13 : decode b_M_shift 13 = .ok (.ifCond .ne 5, 3) := by decide +kernel
theorem d_M_shift_16 : decode b_M_shift 16 = .ok (.iconst (-1), 1) := by decide +kernel
theorem d_M_shift_17 : decode b_M_shift 17 = .ok (.ireturn, 1) := by decide +kernel
theorem d_M_shift_18 : decode b_M_shift 18 = .ok (.aload_n 0, 1) := by decide +kernel
theorem d_M_shift_19 : decode b_M_shift 19 = .ok (.getfield 217, 3) := by decide +kernel
theorem d_M_shift_22 : decode b_M_shift 22 = .ok (.iload_n 1, 1) := by decide +kernel
theorem d_M_shift_23 : decode b_M_shift 23 = .ok (.iaload, 1) := by decide +kernel
theorem d_M_shift_24 : decode b_M_shift 24 = .ok (.ifCond .lt 12, 3) := by decide +kernel
theorem d_M_shift_27 : decode b_M_shift 27 = .ok (.aload_n 0, 1) := by decide +kernel
theorem d_M_shift_28 : decode b_M_shift 28 = .ok (.getfield 217, 3) := by decide +kernel
theorem d_M_shift_31 : decode b_M_shift 31 = .ok (.iload_n 3, 1) := by decide +kernel
theorem d_M_shift_32 : decode b_M_shift 32 = .ok (.iaload, 1) := by decide +kernel
theorem d_M_shift_33 : decode b_M_shift 33 = .ok (.ifCond .ge 6, 3) := by decide +kernel
theorem d_M_shift_36 : decode b_M_shift 36 = .ok (.bipush (-11), 2) := by decide +kernel
theorem d_M_shift_38 : decode b_M_shift 38 = .ok (.ireturn, 1) := by decide +kernel
theorem d_M_shift_39 : decode b_M_shift 39 = .ok (.aload_n 0, 1) := by decide +kernel
theorem d_M_shift_40 : decode b_M_shift 40 = .ok (.getfield 217, 3) := by decide +kernel
theorem d_M_shift_43 : decode b_M_shift 43 = .ok (.iload_n 1, 1) := by decide +kernel
theorem d_M_shift_44 : decode b_M_shift 44 = .ok (.iaload, 1) := by decide +kernel
theorem d_M_shift_45 : decode b_M_shift 45 = .ok (.aload_n 0, 1) := by decide +kernel
theorem d_M_shift_46 : decode b_M_shift 46 = .ok (.getfield 217, 3) := by decide +kernel
theorem d_M_shift_49 : decode b_M_shift 49 = .ok (.iload_n 3, 1) := by decide +kernel
theorem d_M_shift_50 : decode b_M_shift 50 = .ok (.iaload, 1) := by decide +kernel
theorem d_M_shift_51 : decode b_M_shift 51 = .ok (.if_icmp .eq 6, 3) := by decide +kernel
theorem d_M_shift_54 : decode b_M_shift 54 = .ok (.bipush (-12), 2) := by decide +kernel
theorem d_M_shift_56 : decode b_M_shift 56 = .ok (.ireturn, 1) := by decide +kernel
theorem d_M_shift_57 : decode b_M_shift 57 = .ok (.iload 5, 2) := by decide +kernel
theorem d_M_shift_59 : decode b_M_shift 59 = .ok (.ifCond .lt 39, 3) := by decide +kernel
theorem d_M_shift_62 : decode b_M_shift 62 = .ok (.iload_n 2, 1) := by decide +kernel
theorem d_M_shift_63 : decode b_M_shift 63 = .ok (.ifCond .lt 35, 3) := by decide +kernel
theorem d_M_shift_66 : decode b_M_shift 66 = .ok (.iload 4, 2) := by decide +kernel
theorem d_M_shift_68 : decode b_M_shift 68 = .ok (.ifCond .lt 30, 3) := by decide +kernel
theorem d_M_shift_71 : decode b_M_shift 71 = .ok (.iload_n 2, 1) := by decide +kernel
theorem d_M_shift_72 : decode b_M_shift 72 = .ok (.aload_n 0, 1) := by decide +kernel
theorem d_M_shift_73 : decode b_M_shift 73 = .ok (.getfield 220, 3) := by decide +kernel
theorem d_M_shift_76 : decode b_M_shift 76 = .ok (.iload_n 1, 1) := by decide +kernel
theorem d_M_shift_77 : decode b_M_shift 77 = .ok (.iaload, 1) := by decide +kernel
theorem d_M_shift_78 : decode b_M_shift 78 = .ok (.iload 5, 2) := by decide +kernel
theorem d_M_shift_80 : decode b_M_shift 80 = .ok (.isub, 1) := by decide +kernel
theorem d_M_shift_81 : decode b_M_shift 81 = .ok (.if_icmp .gt 17, 3) := by decide +kernel
theorem d_M_shift_84 : decode b_M_shift 84 = .ok (.iload 4, 2) := by decide +kernel
theorem d_M_shift_86 : decode b_M_shift 86 = .ok (.aload_n 0, 1) := by decide +kernel
theorem d_M_shift_87 : decode b_M_shift 87 = .ok (.getfield 220, 3) := by decide +kernel
theorem d_M_shift_90 : decode b_M_shift 90 = .ok (.iload_n 3, 1) := by decide +kernel
theorem d_M_shift_91 : decode b_M_shift 91 = .ok (.iaload, 1) := by decide +kernel
theorem d_M_shift_92 : decode b_M_shift 92 = .ok (.iload 5, 2) := by decide +kernel
theorem d_M_shift_94 : decode b_M_shift 94 = .ok (.isub, 1) := by decide +kernel
theorem d_M_shift_95 : decode b_M_shift 95 = .ok (.if_icmp .le 6, 3) := by decide +kernel
theorem d_M_shift_98 : decode b_M_shift 98 = .ok (.bipush (-13), 2) := by decide +kernel
theorem d_M_shift_100 : decode b_M_shift 100 = .ok (.ireturn, 1) := by decide +kernel
theorem d_M_shift_101 : decode b_M_shift 101 = .ok (.iconst 0, 1) := by decide +kernel
theorem d_M_shift_102 : decode b_M_shift 102 = .ok (.istore 6, 2) := by decide +kernel
theorem d_M_shift_104 : decode b_M_shift 104 = .ok (.iload 6, 2) := by decide +kernel
theorem d_M_shift_106 : decode b_M_shift 106 = .ok (.iload 5, 2) := by decide +kernel
theorem d_M_shift_108 : decode b_M_shift 108 = .ok (.if_icmp .ge 30, 3) := by decide +kernel
theorem d_M_shift_111 : decode b_M_shift 111 = .ok (.aload_n 0, 1) := by decide +kernel
theorem d_M_shift_112 : decode b_M_shift 112 = .ok (.getfield 227, 3) := by decide +kernel
theorem d_M_shift_115 : decode b_M_shift 115 = .ok (.iload 6, 2) := by decide +kernel
theorem d_M_shift_117 : decode b_M_shift 117 = .ok (.aload_n 0, 1) := by decide +kernel
theorem d_M_shift_118 : decode b_M_shift 118 = .ok (.getfield 223, 3) := by decide +kernel
theorem d_M_shift_121 : decode b_M_shift 121 = .ok (.bipush 60, 2) := by decide +kernel
theorem d_M_shift_123 : decode b_M_shift 123 = .ok (.iload_n 1, 1) := by decide +kernel
theorem d_M_shift_124 : decode b_M_shift 124 = .ok (.imul, 1) := by decide +kernel
theorem d_M_shift_125 : decode b_M_shift 125 = .ok (.iload_n 2, 1) := by decide +kernel
theorem d_M_shift_126 : decode b_M_shift 126 = .ok (.iadd, 1) := by decide +kernel
theorem d_M_shift_127 : decode b_M_shift 127 = .ok (.iload 6, 2) := by decide +kernel
theorem d_M_shift_129 : decode b_M_shift 129 = .ok (.iadd, 1) := by decide +kernel
theorem d_M_shift_130 : decode b_M_shift 130 = .ok (.laload, 1) := by decide +kernel
theorem d_M_shift_131 : decode b_M_shift 131 = .ok (.lastore, 1) := by decide +kernel
theorem d_M_shift_132 : decode b_M_shift 132 = .ok (.iinc 6 1, 3) := by decide +kernel
theorem d_M_shift_135 : decode b_M_shift 135 = .ok (.goto (-31), 3) := by decide +kernel
theorem d_M_shift_138 : decode b_M_shift 138 = .ok (.iconst 0, 1) := by decide +kernel
theorem d_M_shift_139 : decode b_M_shift 139 = .ok (.istore 6, 2) := by decide +kernel
theorem d_M_shift_141 : decode b_M_shift 141 = .ok (.iload 6, 2) := by decide +kernel
theorem d_M_shift_143 : decode b_M_shift 143 = .ok (.iload 5, 2) := by decide +kernel
theorem d_M_shift_145 : decode b_M_shift 145 = .ok (.if_icmp .ge 31, 3) := by decide +kernel
theorem d_M_shift_148 : decode b_M_shift 148 = .ok (.aload_n 0, 1) := by decide +kernel
theorem d_M_shift_149 : decode b_M_shift 149 = .ok (.getfield 223, 3) := by decide +kernel
theorem d_M_shift_152 : decode b_M_shift 152 = .ok (.bipush 60, 2) := by decide +kernel
theorem d_M_shift_154 : decode b_M_shift 154 = .ok (.iload_n 3, 1) := by decide +kernel
theorem d_M_shift_155 : decode b_M_shift 155 = .ok (.imul, 1) := by decide +kernel
theorem d_M_shift_156 : decode b_M_shift 156 = .ok (.iload 4, 2) := by decide +kernel
theorem d_M_shift_158 : decode b_M_shift 158 = .ok (.iadd, 1) := by decide +kernel
theorem d_M_shift_159 : decode b_M_shift 159 = .ok (.iload 6, 2) := by decide +kernel
theorem d_M_shift_161 : decode b_M_shift 161 = .ok (.iadd, 1) := by decide +kernel
theorem d_M_shift_162 : decode b_M_shift 162 = .ok (.aload_n 0, 1) := by decide +kernel
theorem d_M_shift_163 : decode b_M_shift 163 = .ok (.getfield 227, 3) := by decide +kernel
theorem d_M_shift_166 : decode b_M_shift 166 = .ok (.iload 6, 2) := by decide +kernel
theorem d_M_shift_168 : decode b_M_shift 168 = .ok (.laload, 1) := by decide +kernel
theorem d_M_shift_169 : decode b_M_shift 169 = .ok (.lastore, 1) := by decide +kernel
theorem d_M_shift_170 : decode b_M_shift 170 = .ok (.iinc 6 1, 3) := by decide +kernel
theorem d_M_shift_173 : decode b_M_shift 173 = .ok (.goto (-32), 3) := by decide +kernel
theorem d_M_shift_176 : decode b_M_shift 176 = .ok (.iload 5, 2) := by decide +kernel
theorem d_M_shift_178 : decode b_M_shift 178 = .ok (.ireturn, 1) := by decide +kernel
set_option maxRecDepth 20000 in
theorem c_M_shift_b141 {r : Int32} {wz : gW} {rec141 : Nat × Int32 × Int32 × Int32 × Int32 × gW → Option (Int32 × gW)} (ih141 : ∀ (a0 : Nat) (a3 : Int32) (a4 : Int32) (a5 : Int32) (a6 : Int32) (w : gW) (ls : Array Slot) (H : Heap) (locs : List Loc), rec141 (a0, a3, a4, a5, a6, w) = some (r, wz) → lv_has ls 7 [(0, .ref (B + a0)), (3, .int a3), (4, .int a4), (5, .int a5), (6, .int a6)] → gRep D cA B w H → va_S (gA B) s.heap H locs → W p l e ({ frames := 3, cells := 0, slots := 0, locals := 84 } : Room) s m args below meth c H locs 0 0 (MQ below (gQi D cA B r wz) args s 0 0 (gA B)) (F0 m 141 ls [])) (C : gC p s m args meth c "RidCoppersModel" b_M_shift 7 (some .int) D cA oc B) (a0 : Nat) (a3 : Int32) (a4 : Int32) (a5 : Int32) (a6 : Int32) (w : gW) {ls : Array Slot} {H : Heap} {locs : List Loc} (hl : lv_has ls 7 [(0, .ref (B + a0)), (3, .int a3), (4, .int a4), (5, .int a5), (6, .int a6)]) (hf : f_M_shift_b141 N rec141 a0 a3 a4 a5 a6 w = some (r, wz)) (hR : gRep D cA B w H) (hS : va_S (gA B) s.heap H locs) : W p l e ({ frames := 3, cells := 0, slots := 0, locals := 84 } : Room) s m args below meth c H locs 0 0 (MQ below (gQi D cA B r wz) args s 0 0 (gA B)) (F0 m 141 ls []) := by
  obtain ⟨hx, hb, hml, hown, hts, hr, hlocks, hK, hBs⟩ := id C
  unfold f_M_shift_b141 at hf
  refine lv_iload hx hb d_M_shift_141 (lv_at hl 4 rfl) ?_
  refine lv_iload hx hb d_M_shift_143 (lv_at hl 3 rfl) ?_
  refine lv_icmp_ge (tgt := 176) hx hb d_M_shift_145 (by decide) (fun hc => ?_) (fun hc => ?_)
  · have hf := cd_t hc hf
    refine lv_iload hx hb d_M_shift_176 (lv_at hl 3 rfl) ?_
    exact g_iret hx hb hr hlocks hR hS hf rfl d_M_shift_178
  have hf := cd_f hc hf
  refine lv_aload_n hx hb d_M_shift_148 rfl (lv_at hl 0 rfl) ?_
  have ⟨h28, hf⟩ := gd_e hf
  have ⟨x29, h30, hf⟩ := rr_e hf
  refine g_getR hx hb hts hown hK hR fl_M_223 (fun _ => rfl) h28 h30 d_M_shift_149 ?_
  refine lv_bipush (v := 60) hx hb d_M_shift_152 (by decide) ?_
  refine lv_iload_n hx hb d_M_shift_154 rfl (lv_at hl 1 rfl) ?_
  refine lv_imul hx hb d_M_shift_155 ?_
  refine g_nI hf (fun x31 hf => ?_)
  refine lv_iload hx hb d_M_shift_156 (lv_at hl 2 rfl) ?_
  refine lv_iadd hx hb d_M_shift_158 ?_
  refine g_nI hf (fun x32 hf => ?_)
  refine lv_iload hx hb d_M_shift_159 (lv_at hl 4 rfl) ?_
  refine lv_iadd hx hb d_M_shift_161 ?_
  refine g_nI hf (fun x33 hf => ?_)
  refine lv_aload_n hx hb d_M_shift_162 rfl (lv_at hl 0 rfl) ?_
  have ⟨x34, h35, hf⟩ := rr_e hf
  refine g_getR hx hb hts hown hK hR fl_M_227 (fun _ => rfl) h28 h35 d_M_shift_163 ?_
  refine lv_iload hx hb d_M_shift_166 (lv_at hl 4 rfl) ?_
  have ⟨h36, hf⟩ := gd_e hf
  have ⟨h37, hf⟩ := gd_e hf
  refine g_lald hx hb hK hR h36 h37 d_M_shift_168 ?_
  refine g_nL hf (fun x38 hf => ?_)
  have ⟨h39, hf⟩ := gd_e hf
  have ⟨h40, hf⟩ := gd_e hf
  refine g_last hx hb hK hR hS h39 h40 d_M_shift_169 (fun H locs hR hS => ?_)
  refine g_nW hf hR (fun w41 hf hR => ?_)
  refine g_iinc (lv' := fun x42 => [(6, .int x42), (0, .ref (B + a0)), (3, .int a3), (4, .int a4), (5, .int a5)]) hf hx hb d_M_shift_170 hl (k := 4) rfl (by decide) (by decide) (fun _ => rfl) (fun x42 ls hf hl => ?_)
  refine lv_goto (tgt := 141) hx hb d_M_shift_173 (by decide) ?_
  exact ih141 a0 a3 a4 a5 x42 w41 _ _ _ hf (lv_sub hl [1, 2, 3, 4, 0] rfl) hR hS
theorem c_M_shift_l141 {r : Int32} {wz : gW} (C : gC p s m args meth c "RidCoppersModel" b_M_shift 7 (some .int) D cA oc B) (a0 : Nat) (a3 : Int32) (a4 : Int32) (a5 : Int32) (a6 : Int32) (w : gW) {ls : Array Slot} {H : Heap} {locs : List Loc} (hl : lv_has ls 7 [(0, .ref (B + a0)), (3, .int a3), (4, .int a4), (5, .int a5), (6, .int a6)]) (hf : f_M_shift_l141 N a0 a3 a4 a5 a6 w = some (r, wz)) (hR : gRep D cA B w H) (hS : va_S (gA B) s.heap H locs) : W p l e ({ frames := 3, cells := 0, slots := 0, locals := 84 } : Room) s m args below meth c H locs 0 0 (MQ below (gQi D cA B r wz) args s 0 0 (gA B)) (F0 m 141 ls []) := by
  unfold f_M_shift_l141 at hf
  suffices hh : ∀ n : Nat, ∀ (a0 : Nat) (a3 : Int32) (a4 : Int32) (a5 : Int32) (a6 : Int32) (w : gW) (ls : Array Slot) (H : Heap) (locs : List Loc), itr (fun rec (q : Nat × Int32 × Int32 × Int32 × Int32 × gW) => f_M_shift_b141 N rec q.1 q.2.1 q.2.2.1 q.2.2.2.1 q.2.2.2.2.1 q.2.2.2.2.2) n (a0, a3, a4, a5, a6, w) = some (r, wz) → lv_has ls 7 [(0, .ref (B + a0)), (3, .int a3), (4, .int a4), (5, .int a5), (6, .int a6)] → gRep D cA B w H → va_S (gA B) s.heap H locs → W p l e ({ frames := 3, cells := 0, slots := 0, locals := 84 } : Room) s m args below meth c H locs 0 0 (MQ below (gQi D cA B r wz) args s 0 0 (gA B)) (F0 m 141 ls []) from hh N a0 a3 a4 a5 a6 w ls H locs hf hl hR hS
  intro n
  induction n with
  | zero => intro a0 a3 a4 a5 a6 w ls H locs hf; cases hf
  | succ n ihn =>
    intro a0 a3 a4 a5 a6 w ls H locs hf hl hR hS
    exact c_M_shift_b141 (N := N) ihn C a0 a3 a4 a5 a6 w hl ((itr_s _ _ _).symm.trans hf) hR hS
set_option maxRecDepth 20000 in
theorem c_M_shift_b104 {r : Int32} {wz : gW} {rec104 : Nat × Int32 × Int32 × Int32 × Int32 × Int32 × Int32 × gW → Option (Int32 × gW)} (ih104 : ∀ (a0 : Nat) (a1 : Int32) (a2 : Int32) (a3 : Int32) (a4 : Int32) (a5 : Int32) (a6 : Int32) (w : gW) (ls : Array Slot) (H : Heap) (locs : List Loc), rec104 (a0, a1, a2, a3, a4, a5, a6, w) = some (r, wz) → lv_has ls 7 [(0, .ref (B + a0)), (1, .int a1), (2, .int a2), (3, .int a3), (4, .int a4), (5, .int a5), (6, .int a6)] → gRep D cA B w H → va_S (gA B) s.heap H locs → W p l e ({ frames := 3, cells := 0, slots := 0, locals := 84 } : Room) s m args below meth c H locs 0 0 (MQ below (gQi D cA B r wz) args s 0 0 (gA B)) (F0 m 104 ls [])) (C : gC p s m args meth c "RidCoppersModel" b_M_shift 7 (some .int) D cA oc B) (a0 : Nat) (a1 : Int32) (a2 : Int32) (a3 : Int32) (a4 : Int32) (a5 : Int32) (a6 : Int32) (w : gW) {ls : Array Slot} {H : Heap} {locs : List Loc} (hl : lv_has ls 7 [(0, .ref (B + a0)), (1, .int a1), (2, .int a2), (3, .int a3), (4, .int a4), (5, .int a5), (6, .int a6)]) (hf : f_M_shift_b104 N rec104 a0 a1 a2 a3 a4 a5 a6 w = some (r, wz)) (hR : gRep D cA B w H) (hS : va_S (gA B) s.heap H locs) : W p l e ({ frames := 3, cells := 0, slots := 0, locals := 84 } : Room) s m args below meth c H locs 0 0 (MQ below (gQi D cA B r wz) args s 0 0 (gA B)) (F0 m 104 ls []) := by
  obtain ⟨hx, hb, hml, hown, hts, hr, hlocks, hK, hBs⟩ := id C
  unfold f_M_shift_b104 at hf
  refine lv_iload hx hb d_M_shift_104 (lv_at hl 6 rfl) ?_
  refine lv_iload hx hb d_M_shift_106 (lv_at hl 5 rfl) ?_
  refine lv_icmp_ge (tgt := 138) hx hb d_M_shift_108 (by decide) (fun hc => ?_) (fun hc => ?_)
  · have hf := cd_t hc hf
    refine lv_iconst (v := 0) hx hb d_M_shift_138 (by decide) ?_
    refine lv_istore (lv' := [(6, .int 0), (0, .ref (B + a0)), (1, .int a1), (2, .int a2), (3, .int a3), (4, .int a4), (5, .int a5)]) hx hb d_M_shift_139 hl (by decide) rfl (fun ls hl => ?_)
    exact c_M_shift_l141 C a0 a3 a4 a5 0 w (lv_sub hl [1, 4, 5, 6, 0] rfl) hf hR hS
  have hf := cd_f hc hf
  refine lv_aload_n hx hb d_M_shift_111 rfl (lv_at hl 0 rfl) ?_
  have ⟨h43, hf⟩ := gd_e hf
  have ⟨x44, h45, hf⟩ := rr_e hf
  refine g_getR hx hb hts hown hK hR fl_M_227 (fun _ => rfl) h43 h45 d_M_shift_112 ?_
  refine lv_iload hx hb d_M_shift_115 (lv_at hl 6 rfl) ?_
  refine lv_aload_n hx hb d_M_shift_117 rfl (lv_at hl 0 rfl) ?_
  have ⟨x46, h47, hf⟩ := rr_e hf
  refine g_getR hx hb hts hown hK hR fl_M_223 (fun _ => rfl) h43 h47 d_M_shift_118 ?_
  refine lv_bipush (v := 60) hx hb d_M_shift_121 (by decide) ?_
  refine lv_iload_n hx hb d_M_shift_123 rfl (lv_at hl 1 rfl) ?_
  refine lv_imul hx hb d_M_shift_124 ?_
  refine g_nI hf (fun x48 hf => ?_)
  refine lv_iload_n hx hb d_M_shift_125 rfl (lv_at hl 2 rfl) ?_
  refine lv_iadd hx hb d_M_shift_126 ?_
  refine g_nI hf (fun x49 hf => ?_)
  refine lv_iload hx hb d_M_shift_127 (lv_at hl 6 rfl) ?_
  refine lv_iadd hx hb d_M_shift_129 ?_
  refine g_nI hf (fun x50 hf => ?_)
  have ⟨h51, hf⟩ := gd_e hf
  have ⟨h52, hf⟩ := gd_e hf
  refine g_lald hx hb hK hR h51 h52 d_M_shift_130 ?_
  refine g_nL hf (fun x53 hf => ?_)
  have ⟨h54, hf⟩ := gd_e hf
  have ⟨h55, hf⟩ := gd_e hf
  refine g_last hx hb hK hR hS h54 h55 d_M_shift_131 (fun H locs hR hS => ?_)
  refine g_nW hf hR (fun w56 hf hR => ?_)
  refine g_iinc (lv' := fun x57 => [(6, .int x57), (0, .ref (B + a0)), (1, .int a1), (2, .int a2), (3, .int a3), (4, .int a4), (5, .int a5)]) hf hx hb d_M_shift_132 hl (k := 6) rfl (by decide) (by decide) (fun _ => rfl) (fun x57 ls hf hl => ?_)
  refine lv_goto (tgt := 104) hx hb d_M_shift_135 (by decide) ?_
  exact ih104 a0 a1 a2 a3 a4 a5 x57 w56 _ _ _ hf (lv_sub hl [1, 2, 3, 4, 5, 6, 0] rfl) hR hS
theorem c_M_shift_l104 {r : Int32} {wz : gW} (C : gC p s m args meth c "RidCoppersModel" b_M_shift 7 (some .int) D cA oc B) (a0 : Nat) (a1 : Int32) (a2 : Int32) (a3 : Int32) (a4 : Int32) (a5 : Int32) (a6 : Int32) (w : gW) {ls : Array Slot} {H : Heap} {locs : List Loc} (hl : lv_has ls 7 [(0, .ref (B + a0)), (1, .int a1), (2, .int a2), (3, .int a3), (4, .int a4), (5, .int a5), (6, .int a6)]) (hf : f_M_shift_l104 N a0 a1 a2 a3 a4 a5 a6 w = some (r, wz)) (hR : gRep D cA B w H) (hS : va_S (gA B) s.heap H locs) : W p l e ({ frames := 3, cells := 0, slots := 0, locals := 84 } : Room) s m args below meth c H locs 0 0 (MQ below (gQi D cA B r wz) args s 0 0 (gA B)) (F0 m 104 ls []) := by
  unfold f_M_shift_l104 at hf
  suffices hh : ∀ n : Nat, ∀ (a0 : Nat) (a1 : Int32) (a2 : Int32) (a3 : Int32) (a4 : Int32) (a5 : Int32) (a6 : Int32) (w : gW) (ls : Array Slot) (H : Heap) (locs : List Loc), itr (fun rec (q : Nat × Int32 × Int32 × Int32 × Int32 × Int32 × Int32 × gW) => f_M_shift_b104 N rec q.1 q.2.1 q.2.2.1 q.2.2.2.1 q.2.2.2.2.1 q.2.2.2.2.2.1 q.2.2.2.2.2.2.1 q.2.2.2.2.2.2.2) n (a0, a1, a2, a3, a4, a5, a6, w) = some (r, wz) → lv_has ls 7 [(0, .ref (B + a0)), (1, .int a1), (2, .int a2), (3, .int a3), (4, .int a4), (5, .int a5), (6, .int a6)] → gRep D cA B w H → va_S (gA B) s.heap H locs → W p l e ({ frames := 3, cells := 0, slots := 0, locals := 84 } : Room) s m args below meth c H locs 0 0 (MQ below (gQi D cA B r wz) args s 0 0 (gA B)) (F0 m 104 ls []) from hh N a0 a1 a2 a3 a4 a5 a6 w ls H locs hf hl hR hS
  intro n
  induction n with
  | zero => intro a0 a1 a2 a3 a4 a5 a6 w ls H locs hf; cases hf
  | succ n ihn =>
    intro a0 a1 a2 a3 a4 a5 a6 w ls H locs hf hl hR hS
    exact c_M_shift_b104 (N := N) ihn C a0 a1 a2 a3 a4 a5 a6 w hl ((itr_s _ _ _).symm.trans hf) hR hS
set_option maxRecDepth 20000 in
theorem c_M_shift_b0 {r : Int32} {wz : gW} (C : gC p s m args meth c "RidCoppersModel" b_M_shift 7 (some .int) D cA oc B) (a0 : Nat) (a1 : Int32) (a2 : Int32) (a3 : Int32) (a4 : Int32) (a5 : Int32) (w : gW) {ls : Array Slot} {H : Heap} {locs : List Loc} (hl : lv_has ls 7 [(0, .ref (B + a0)), (1, .int a1), (2, .int a2), (3, .int a3), (4, .int a4), (5, .int a5)]) (hf : f_M_shift_b0 N a0 a1 a2 a3 a4 a5 w = some (r, wz)) (hR : gRep D cA B w H) (hS : va_S (gA B) s.heap H locs) : W p l e ({ frames := 3, cells := 0, slots := 0, locals := 84 } : Room) s m args below meth c H locs 0 0 (MQ below (gQi D cA B r wz) args s 0 0 (gA B)) (F0 m 0 ls []) := by
  obtain ⟨hx, hb, hml, hown, hts, hr, hlocks, hK, hBs⟩ := id C
  unfold f_M_shift_b0 at hf
  refine lv_aload_n hx hb d_M_shift_0 rfl (lv_at hl 0 rfl) ?_
  refine lv_iload_n hx hb d_M_shift_1 rfl (lv_at hl 1 rfl) ?_
  have ⟨h4, hf⟩ := gd_e hf
  have ⟨x1, w2, h3, hf⟩ := kl_e hf
  refine g_ki0 (g_rV (As := [.int a1]) (rest := []) hx hb hml hown hts hK hR hS (c_M_isTape l D cA oc B N a0 a1 w h3) I_M_isTape m_1491 mp_73 (gRecv hK hR (ci := 12) rfl h4) rfl rfl (Nat.le_of_ble_eq_true rfl) hl.1 ⟨Nat.le_of_ble_eq_true rfl, Nat.le_of_ble_eq_true rfl⟩ ⟨Nat.le_of_ble_eq_true rfl, Nat.le_of_ble_eq_true rfl⟩ d_M_shift_2) hS (fun H locs hR hS => ?_)
  refine lv_if_eq (tgt := 16) hx hb d_M_shift_5 (by decide) (fun hc => ?_) (fun hc => ?_)
  · have hf := cd_t hc hf
    refine lv_iconst (v := (-1)) hx hb d_M_shift_16 (by decide) ?_
    exact g_iret hx hb hr hlocks hR hS hf rfl d_M_shift_17
  have hf := cd_f hc hf
  refine lv_aload_n hx hb d_M_shift_8 rfl (lv_at hl 0 rfl) ?_
  refine lv_iload_n hx hb d_M_shift_9 rfl (lv_at hl 3 rfl) ?_
  have ⟨h8, hf⟩ := gd_e hf
  have ⟨x5, w6, h7, hf⟩ := kl_e hf
  refine g_ki0 (g_rV (As := [.int a3]) (rest := []) hx hb hml hown hts hK hR hS (c_M_isTape l D cA oc B N a0 a3 w2 h7) I_M_isTape m_1491 mp_73 (gRecv hK hR (ci := 12) rfl h8) rfl rfl (Nat.le_of_ble_eq_true rfl) hl.1 ⟨Nat.le_of_ble_eq_true rfl, Nat.le_of_ble_eq_true rfl⟩ ⟨Nat.le_of_ble_eq_true rfl, Nat.le_of_ble_eq_true rfl⟩ d_M_shift_10) hS (fun H locs hR hS => ?_)
  refine lv_if_ne (tgt := 18) hx hb d_M_shift_13 (by decide) (fun hc => ?_) (fun hc => ?_)
  · have hf := cd_f hc hf
    refine lv_aload_n hx hb d_M_shift_18 rfl (lv_at hl 0 rfl) ?_
    have ⟨h9, hf⟩ := gd_e hf
    have ⟨x10, h11, hf⟩ := rr_e hf
    refine g_getR hx hb hts hown hK hR fl_M_217 (fun _ => rfl) h9 h11 d_M_shift_19 ?_
    refine lv_iload_n hx hb d_M_shift_22 rfl (lv_at hl 1 rfl) ?_
    have ⟨h12, hf⟩ := gd_e hf
    have ⟨h13, hf⟩ := gd_e hf
    refine g_iald hx hb hK hR h12 h13 d_M_shift_23 ?_
    refine g_nI hf (fun x14 hf => ?_)
    refine lv_if_lt (tgt := 36) hx hb d_M_shift_24 (by decide) (fun hc => ?_) (fun hc => ?_)
    · have hf := cd_t hc hf
      refine lv_bipush (v := (-11)) hx hb d_M_shift_36 (by decide) ?_
      exact g_iret hx hb hr hlocks hR hS hf rfl d_M_shift_38
    have hf := cd_f hc hf
    refine lv_aload_n hx hb d_M_shift_27 rfl (lv_at hl 0 rfl) ?_
    refine g_getR hx hb hts hown hK hR fl_M_217 (fun _ => rfl) h9 h11 d_M_shift_28 ?_
    refine lv_iload_n hx hb d_M_shift_31 rfl (lv_at hl 3 rfl) ?_
    have ⟨h15, hf⟩ := gd_e hf
    refine g_iald hx hb hK hR h12 h15 d_M_shift_32 ?_
    refine g_nI hf (fun x16 hf => ?_)
    refine lv_if_ge (tgt := 39) hx hb d_M_shift_33 (by decide) (fun hc => ?_) (fun hc => ?_)
    · have hf := cd_t hc hf
      refine lv_aload_n hx hb d_M_shift_39 rfl (lv_at hl 0 rfl) ?_
      refine g_getR hx hb hts hown hK hR fl_M_217 (fun _ => rfl) h9 h11 d_M_shift_40 ?_
      refine lv_iload_n hx hb d_M_shift_43 rfl (lv_at hl 1 rfl) ?_
      refine g_iald hx hb hK hR h12 h13 d_M_shift_44 ?_
      refine g_nI hf (fun x17 hf => ?_)
      refine lv_aload_n hx hb d_M_shift_45 rfl (lv_at hl 0 rfl) ?_
      refine g_getR hx hb hts hown hK hR fl_M_217 (fun _ => rfl) h9 h11 d_M_shift_46 ?_
      refine lv_iload_n hx hb d_M_shift_49 rfl (lv_at hl 3 rfl) ?_
      refine g_iald hx hb hK hR h12 h15 d_M_shift_50 ?_
      refine g_nI hf (fun x18 hf => ?_)
      refine lv_icmp_eq (tgt := 57) hx hb d_M_shift_51 (by decide) (fun hc => ?_) (fun hc => ?_)
      · have hf := cd_t hc hf
        refine lv_iload hx hb d_M_shift_57 (lv_at hl 5 rfl) ?_
        refine lv_if_lt (tgt := 98) hx hb d_M_shift_59 (by decide) (fun hc => ?_) (fun hc => ?_)
        · have hf := cd_t hc hf
          refine lv_bipush (v := (-13)) hx hb d_M_shift_98 (by decide) ?_
          exact g_iret hx hb hr hlocks hR hS hf rfl d_M_shift_100
        have hf := cd_f hc hf
        refine lv_iload_n hx hb d_M_shift_62 rfl (lv_at hl 2 rfl) ?_
        refine lv_if_lt (tgt := 98) hx hb d_M_shift_63 (by decide) (fun hc => ?_) (fun hc => ?_)
        · have hf := cd_t hc hf
          refine lv_bipush (v := (-13)) hx hb d_M_shift_98 (by decide) ?_
          exact g_iret hx hb hr hlocks hR hS hf rfl d_M_shift_100
        have hf := cd_f hc hf
        refine lv_iload hx hb d_M_shift_66 (lv_at hl 4 rfl) ?_
        refine lv_if_lt (tgt := 98) hx hb d_M_shift_68 (by decide) (fun hc => ?_) (fun hc => ?_)
        · have hf := cd_t hc hf
          refine lv_bipush (v := (-13)) hx hb d_M_shift_98 (by decide) ?_
          exact g_iret hx hb hr hlocks hR hS hf rfl d_M_shift_100
        have hf := cd_f hc hf
        refine lv_iload_n hx hb d_M_shift_71 rfl (lv_at hl 2 rfl) ?_
        refine lv_aload_n hx hb d_M_shift_72 rfl (lv_at hl 0 rfl) ?_
        have ⟨x19, h20, hf⟩ := rr_e hf
        refine g_getR hx hb hts hown hK hR fl_M_220 (fun _ => rfl) h9 h20 d_M_shift_73 ?_
        refine lv_iload_n hx hb d_M_shift_76 rfl (lv_at hl 1 rfl) ?_
        have ⟨h21, hf⟩ := gd_e hf
        have ⟨h22, hf⟩ := gd_e hf
        refine g_iald hx hb hK hR h21 h22 d_M_shift_77 ?_
        refine g_nI hf (fun x23 hf => ?_)
        refine lv_iload hx hb d_M_shift_78 (lv_at hl 5 rfl) ?_
        refine lv_isub hx hb d_M_shift_80 ?_
        refine g_nI hf (fun x24 hf => ?_)
        refine lv_icmp_gt (tgt := 98) hx hb d_M_shift_81 (by decide) (fun hc => ?_) (fun hc => ?_)
        · have hf := cd_t hc hf
          refine lv_bipush (v := (-13)) hx hb d_M_shift_98 (by decide) ?_
          exact g_iret hx hb hr hlocks hR hS hf rfl d_M_shift_100
        have hf := cd_f hc hf
        refine lv_iload hx hb d_M_shift_84 (lv_at hl 4 rfl) ?_
        refine lv_aload_n hx hb d_M_shift_86 rfl (lv_at hl 0 rfl) ?_
        refine g_getR hx hb hts hown hK hR fl_M_220 (fun _ => rfl) h9 h20 d_M_shift_87 ?_
        refine lv_iload_n hx hb d_M_shift_90 rfl (lv_at hl 3 rfl) ?_
        have ⟨h25, hf⟩ := gd_e hf
        refine g_iald hx hb hK hR h21 h25 d_M_shift_91 ?_
        refine g_nI hf (fun x26 hf => ?_)
        refine lv_iload hx hb d_M_shift_92 (lv_at hl 5 rfl) ?_
        refine lv_isub hx hb d_M_shift_94 ?_
        refine g_nI hf (fun x27 hf => ?_)
        refine lv_icmp_le (tgt := 101) hx hb d_M_shift_95 (by decide) (fun hc => ?_) (fun hc => ?_)
        · have hf := cd_t hc hf
          refine lv_iconst (v := 0) hx hb d_M_shift_101 (by decide) ?_
          refine lv_istore (lv' := [(6, .int 0), (0, .ref (B + a0)), (1, .int a1), (2, .int a2), (3, .int a3), (4, .int a4), (5, .int a5)]) hx hb d_M_shift_102 hl (by decide) rfl (fun ls hl => ?_)
          exact c_M_shift_l104 C a0 a1 a2 a3 a4 a5 0 w6 (lv_sub hl [1, 2, 3, 4, 5, 6, 0] rfl) hf hR hS
        have hf := cd_f hc hf
        refine lv_bipush (v := (-13)) hx hb d_M_shift_98 (by decide) ?_
        exact g_iret hx hb hr hlocks hR hS hf rfl d_M_shift_100
      have hf := cd_f hc hf
      refine lv_bipush (v := (-12)) hx hb d_M_shift_54 (by decide) ?_
      exact g_iret hx hb hr hlocks hR hS hf rfl d_M_shift_56
    have hf := cd_f hc hf
    refine lv_bipush (v := (-11)) hx hb d_M_shift_36 (by decide) ?_
    exact g_iret hx hb hr hlocks hR hS hf rfl d_M_shift_38
  have hf := cd_t hc hf
  refine lv_iconst (v := (-1)) hx hb d_M_shift_16 (by decide) ?_
  exact g_iret hx hb hr hlocks hR hS hf rfl d_M_shift_17
theorem c_M_shift (l : Launch) (D : va_G) (cA : Nat → ClassId) (oc : gO) (B N : Nat) (a0 : Nat) (a1 : Int32) (a2 : Int32) (a3 : Int32) (a4 : Int32) (a5 : Int32) (w : gW) {wz : gW} {r : Int32} (hf : f_M_shift N a0 a1 a2 a3 a4 a5 w = some (r, wz)) : Met l y_M_shift (Cond.code y_M_shift b_M_shift 7 (some .int) :: lw_good) ({ frames := 3, cells := 0, slots := 0, locals := 84 } : Room) (gPre D cA oc B [.ref (B + a0), .int a1, .int a2, .int a3, .int a4, .int a5] w) (gQi D cA B r wz) 0 0 (gA B) := by
  refine Met.ofW (cc := b_M_shift) (maxL := 7) (ret := (some .int)) (by decide +kernel) rfl ?_
  intro p e s m args below meth c s₁ Bd hml hv
  obtain ⟨hargs, C, hR⟩ := gC.enter (l := l) rfl Bd hml hv
  subst hargs
  have hl := lv_entry ([.ref (B + a0), .int a1, .int a2, .int a3, .int a4, .int a5]) (n := 7) (Nat.le_of_ble_eq_true rfl)
  rw [lg_entry_eq]
  generalize (lg_sl ([.ref (B + a0), .int a1, .int a2, .int a3, .int a4, .int a5]) ++ List.replicate (7 - (lg_sl ([.ref (B + a0), .int a1, .int a2, .int a3, .int a4, .int a5])).length) Slot.unset).toArray = ls at hl ⊢
  have hl : lv_has ls 7 [(0, .ref (B + a0)), (1, .int a1), (2, .int a2), (3, .int a3), (4, .int a4), (5, .int a5)] := hl
  exact c_M_shift_b0 C a0 a1 a2 a3 a4 a5 w (lv_sub hl [0, 1, 2, 3, 4, 5] rfl) hf hR va_S.rf
