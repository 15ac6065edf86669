variable {p : Program} {l : Launch} {e : Env} {s : State} {m : MethodId} {args : Array Value} {below : List Frame} {meth : Method} {c : Code} {D : va_G} {cA : Nat → ClassId} {oc : gO} {B N : Nat}
theorem d_M_heft_0 : decode b_M_heft 0 = .ok (.aload_n 0, 1) := by decide +kernel
theorem d_M_heft_1 : decode b_M_heft 1 = .ok (.iconst 0, 1) := by decide +kernel
theorem d_M_heft_2 : decode b_M_heft 2 = .ok (.iload_n 1, 1) := by decide +kernel
theorem d_M_heft_3 : decode b_M_heft 3 = .ok (.iconst (-1), 1) := by decide +kernel
theorem d_M_heft_4 : decode b_M_heft 4 = .ok (.iload_n 1, 1) := by decide +kernel
theorem d_M_heft_5 : decode b_M_heft 5 = .ok (.iconst 2, 1) := by decide +kernel
theorem d_M_heft_6 : decode b_M_heft 6 = .ok (.iadd, 1) := by decide +kernel
theorem d_M_heft_7 : decode b_M_heft 7 = .ok (.invokevirtual 301, 3) := by decide +kernel
theorem d_M_heft_10 : decode b_M_heft 10 = .ok (.ireturn, 1) := by decide +kernel
set_option maxRecDepth 20000 in
theorem c_M_heft_b0 {r : Int32} {wz : gW} (C : gC p s m args meth c "RidCoppersModel" b_M_heft 2 (some .int) D cA oc B) (a0 : Nat) (a1 : Int32) (w : gW) {ls : Array Slot} {H : Heap} {locs : List Loc} (hl : lv_has ls 2 [(0, .ref (B + a0)), (1, .int a1)]) (hf : f_M_heft_b0 N a0 a1 w = some (r, wz)) (hR : gRep D cA B w H) (hS : va_S (gA B) s.heap H locs) : W p l e ({ frames := 4, cells := 0, slots := 0, locals := 118 } : Room) s m args below meth c H locs 0 0 (MQ below (gQi D cA B r wz) args s 0 0 (gA B)) (F0 m 0 ls []) := by
  obtain ⟨hx, hb, hml, hown, hts, hr, hlocks, hK, hBs⟩ := id C
  unfold f_M_heft_b0 at hf
  refine lv_aload_n hx hb d_M_heft_0 rfl (lv_at hl 0 rfl) ?_
  refine lv_iconst (v := 0) hx hb d_M_heft_1 (by decide) ?_
  refine lv_iload_n hx hb d_M_heft_2 rfl (lv_at hl 1 rfl) ?_
  refine lv_iconst (v := (-1)) hx hb d_M_heft_3 (by decide) ?_
  refine lv_iload_n hx hb d_M_heft_4 rfl (lv_at hl 1 rfl) ?_
  refine lv_iconst (v := 2) hx hb d_M_heft_5 (by decide) ?_
  refine lv_iadd hx hb d_M_heft_6 ?_
  refine g_nI hf (fun x1 hf => ?_)
  have ⟨h5, hf⟩ := gd_e hf
  have ⟨x2, w3, h4, hf⟩ := kl_e hf
  refine g_ki0 (g_rV (As := [.int 0, .int a1, .int (-1), .int x1]) (rest := []) hx hb hml hown hts hK hR hS (c_M_sumOf l D cA oc B N a0 0 a1 (-1) x1 w h4) I_M_sumOf m_1300 mp_45 (gRecv hK hR (ci := 12) rfl h5) rfl rfl (Nat.le_of_ble_eq_true rfl) hl.1 ⟨Nat.le_of_ble_eq_true rfl, Nat.le_of_ble_eq_true rfl⟩ ⟨Nat.le_of_ble_eq_true rfl, Nat.le_of_ble_eq_true rfl⟩ d_M_heft_7) hS (fun H locs hR hS => ?_)
  exact g_iret hx hb hr hlocks hR hS hf rfl d_M_heft_10
theorem c_M_heft (l : Launch) (D : va_G) (cA : Nat → ClassId) (oc : gO) (B N : Nat) (a0 : Nat) (a1 : Int32) (w : gW) {wz : gW} {r : Int32} (hf : f_M_heft N a0 a1 w = some (r, wz)) : Met l y_M_heft (Cond.code y_M_heft b_M_heft 2 (some .int) :: lw_good) ({ frames := 4, cells := 0, slots := 0, locals := 118 } : Room) (gPre D cA oc B [.ref (B + a0), .int a1] w) (gQi D cA B r wz) 0 0 (gA B) := by
  refine Met.ofW (cc := b_M_heft) (maxL := 2) (ret := (some .int)) (by decide +kernel) rfl ?_
  intro p e s m args below meth c s₁ Bd hml hv
  obtain ⟨hargs, C, hR⟩ := gC.enter (l := l) rfl Bd hml hv
  subst hargs
  have hl := lv_entry ([.ref (B + a0), .int a1]) (n := 2) (Nat.le_of_ble_eq_true rfl)
  rw [lg_entry_eq]
  generalize (lg_sl ([.ref (B + a0), .int a1]) ++ List.replicate (2 - (lg_sl ([.ref (B + a0), .int a1])).length) Slot.unset).toArray = ls at hl ⊢
  have hl : lv_has ls 2 [(0, .ref (B + a0)), (1, .int a1)] := hl
  exact c_M_heft_b0 C a0 a1 w (lv_sub hl [0, 1] rfl) hf hR va_S.rf
theorem d_M_kept_0 : decode b_M_kept 0 = .ok (.aload_n 0, 1) := by decide +kernel
theorem d_M_kept_1 : decode b_M_kept 1 = .ok (.iconst 1, 1) := by decide +kernel
theorem d_M_kept_2 : decode b_M_kept 2 = .ok (.iload_n 2, 1) := by decide +kernel
theorem d_M_kept_3 : decode b_M_kept 3 = .ok (.iload_n 1, 1) := by decide +kernel
theorem d_M_kept_4 : decode b_M_kept 4 = .ok (.iconst 0, 1) := by decide +kernel
theorem d_M_kept_5 : decode b_M_kept 5 = .ok (.invokevirtual 301, 3) := by decide +kernel
theorem d_M_kept_8 : decode b_M_kept 8 = .ok (.ireturn, 1) := by decide +kernel
set_option maxRecDepth 20000 in
theorem c_M_kept_b0 {r : Int32} {wz : gW} (C : gC p s m args meth c "RidCoppersModel" b_M_kept 3 (some .int) D cA oc B) (a0 : Nat) (a1 : Int32) (a2 : Int32) (w : gW) {ls : Array Slot} {H : Heap} {locs : List Loc} (hl : lv_has ls 3 [(0, .ref (B + a0)), (1, .int a1), (2, .int a2)]) (hf : f_M_kept_b0 N a0 a1 a2 w = some (r, wz)) (hR : gRep D cA B w H) (hS : va_S (gA B) s.heap H locs) : W p l e ({ frames := 4, cells := 0, slots := 0, locals := 118 } : Room) s m args below meth c H locs 0 0 (MQ below (gQi D cA B r wz) args s 0 0 (gA B)) (F0 m 0 ls []) := by
  obtain ⟨hx, hb, hml, hown, hts, hr, hlocks, hK, hBs⟩ := id C
  unfold f_M_kept_b0 at hf
  refine lv_aload_n hx hb d_M_kept_0 rfl (lv_at hl 0 rfl) ?_
  refine lv_iconst (v := 1) hx hb d_M_kept_1 (by decide) ?_
  refine lv_iload_n hx hb d_M_kept_2 rfl (lv_at hl 2 rfl) ?_
  refine lv_iload_n hx hb d_M_kept_3 rfl (lv_at hl 1 rfl) ?_
  refine lv_iconst (v := 0) hx hb d_M_kept_4 (by decide) ?_
  have ⟨h4, hf⟩ := gd_e hf
  have ⟨x1, w2, h3, hf⟩ := kl_e hf
  refine g_ki0 (g_rV (As := [.int 1, .int a2, .int a1, .int 0]) (rest := []) hx hb hml hown hts hK hR hS (c_M_sumOf l D cA oc B N a0 1 a2 a1 0 w h3) I_M_sumOf m_1300 mp_45 (gRecv hK hR (ci := 12) rfl h4) rfl rfl (Nat.le_of_ble_eq_true rfl) hl.1 ⟨Nat.le_of_ble_eq_true rfl, Nat.le_of_ble_eq_true rfl⟩ ⟨Nat.le_of_ble_eq_true rfl, Nat.le_of_ble_eq_true rfl⟩ d_M_kept_5) hS (fun H locs hR hS => ?_)
  exact g_iret hx hb hr hlocks hR hS hf rfl d_M_kept_8
theorem c_M_kept (l : Launch) (D : va_G) (cA : Nat → ClassId) (oc : gO) (B N : Nat) (a0 : Nat) (a1 : Int32) (a2 : Int32) (w : gW) {wz : gW} {r : Int32} (hf : f_M_kept N a0 a1 a2 w = some (r, wz)) : Met l y_M_kept (Cond.code y_M_kept b_M_kept 3 (some .int) :: lw_good) ({ frames := 4, cells := 0, slots := 0, locals := 118 } : Room) (gPre D cA oc B [.ref (B + a0), .int a1, .int a2] w) (gQi D cA B r wz) 0 0 (gA B) := by
  refine Met.ofW (cc := b_M_kept) (maxL := 3) (ret := (some .int)) (by decide +kernel) rfl ?_
  intro p e s m args below meth c s₁ Bd hml hv
  obtain ⟨hargs, C, hR⟩ := gC.enter (l := l) rfl Bd hml hv
  subst hargs
  have hl := lv_entry ([.ref (B + a0), .int a1, .int a2]) (n := 3) (Nat.le_of_ble_eq_true rfl)
  rw [lg_entry_eq]
  generalize (lg_sl ([.ref (B + a0), .int a1, .int a2]) ++ List.replicate (3 - (lg_sl ([.ref (B + a0), .int a1, .int a2])).length) Slot.unset).toArray = ls at hl ⊢
  have hl : lv_has ls 3 [(0, .ref (B + a0)), (1, .int a1), (2, .int a2)] := hl
  exact c_M_kept_b0 C a0 a1 a2 w (lv_sub hl [0, 1, 2] rfl) hf hR va_S.rf
theorem d_M_weight_0 : decode b_M_weight 0 = .ok (.iconst 0, 1) := by decide +kernel
theorem d_M_weight_1 : decode b_M_weight 1 = .ok (.istore_n 2, 1) := by decide +kernel
theorem d_M_weight_2 : decode b_M_weight 2 = .ok (.iconst 0, 1) := by decide +kernel
theorem d_M_weight_3 : decode b_M_weight 3 = .ok (.istore_n 3, 1) := by decide +kernel
theorem d_M_weight_4 : decode b_M_weight 4 = .ok (.iload_n 3, 1) := by decide +kernel
theorem d_M_weight_5 : decode b_M_weight 5 = .ok (.bipush 6, 2) := by decide +kernel
theorem d_M_weight_7 : decode b_M_weight 7 = .ok (.if_icmp .ge 29, 3) := by decide +kernel
theorem d_M_weight_10 : decode b_M_weight 10 = .ok (.iload_n 2, 1) := by decide +kernel
theorem d_M_weight_11 : decode b_M_weight 11 = .ok (.aload_n 0, 1) := by decide +kernel
theorem d_M_weight_12 : decode b_M_weight 12 = .ok (.getfield 29, 3) := by decide +kernel
theorem d_M_weight_15 : decode b_M_weight 15 = .ok (.bipush 6, 2) := by decide +kernel
theorem d_M_weight_17 : decode b_M_weight 17 = .ok (.iload_n 1, 1) := by decide +kernel
theorem d_M_weight_18 : decode b_M_weight 18 = .ok (.imul, 1) := by decide +kernel
theorem d_M_weight_19 : decode b_M_weight 19 = .ok (.iload_n 3, 1) := by decide +kernel
theorem d_M_weight_20 : decode b_M_weight 20 = .ok (.iadd, 1) := by decide +kernel
theorem d_M_weight_21 : decode b_M_weight 21 = .ok (.iaload, 1) := by decide +kernel
theorem d_M_weight_22 : decode b_M_weight 22 = .ok (.aload_n 0, 1) := by decide +kernel
theorem d_M_weight_23 : decode b_M_weight 23 = .ok (.iload_n 3, 1) := by decide +kernel
theorem d_M_weight_24 : decode b_M_weight 24 = .ok (.invokevirtual 305, 3) := by decide +kernel
theorem d_M_weight_27 : decode b_M_weight 27 = .ok (.imul, 1) := by decide +kernel
theorem d_M_weight_28 : decode b_M_weight 28 = .ok (.iadd, 1) := by decide +kernel
theorem d_M_weight_29 : decode b_M_weight 29 = .ok (.istore_n 2, 1) := by decide +kernel
theorem d_M_weight_30 : decode b_M_weight 30 = .ok (.iinc 3 1, 3) := by decide +kernel
theorem d_M_weight_33 : decode b_M_weight 33 = .ok (.goto (-29), 3) := by decide +kernel
theorem d_M_weight_36 : decode b_M_weight 36 = .ok (.iload_n 2, 1) := by decide +kernel
theorem d_M_weight_37 : decode b_M_weight 37 = .ok (.ireturn, 1) := by decide +kernel
set_option maxRecDepth 20000 in
theorem c_M_weight_b4 {r : Int32} {wz : gW} {rec4 : Nat × Int32 × Int32 × Int32 × gW → Option (Int32 × gW)} (ih4 : ∀ (a0 : Nat) (a1 : Int32) (a2 : Int32) (a3 : Int32) (w : gW) (ls : Array Slot) (H : Heap) (locs : List Loc), rec4 (a0, a1, a2, a3, w) = some (r, wz) → lv_has ls 4 [(0, .ref (B + a0)), (1, .int a1), (2, .int a2), (3, .int a3)] → gRep D cA B w H → va_S (gA B) s.heap H locs → W p l e ({ frames := 5, cells := 0, slots := 0, locals := 139 } : Room) s m args below meth c H locs 0 0 (MQ below (gQi D cA B r wz) args s 0 0 (gA B)) (F0 m 4 ls [])) (C : gC p s m args meth c "RidCoppersModel" b_M_weight 4 (some .int) D cA oc B) (a0 : Nat) (a1 : Int32) (a2 : Int32) (a3 : Int32) (w : gW) {ls : Array Slot} {H : Heap} {locs : List Loc} (hl : lv_has ls 4 [(0, .ref (B + a0)), (1, .int a1), (2, .int a2), (3, .int a3)]) (hf : f_M_weight_b4 N rec4 a0 a1 a2 a3 w = some (r, wz)) (hR : gRep D cA B w H) (hS : va_S (gA B) s.heap H locs) : W p l e ({ frames := 5, cells := 0, slots := 0, locals := 139 } : Room) s m args below meth c H locs 0 0 (MQ below (gQi D cA B r wz) args s 0 0 (gA B)) (F0 m 4 ls []) := by
  obtain ⟨hx, hb, hml, hown, hts, hr, hlocks, hK, hBs⟩ := id C
  unfold f_M_weight_b4 at hf
  refine lv_iload_n hx hb d_M_weight_4 rfl (lv_at hl 3 rfl) ?_
  refine lv_bipush (v := 6) hx hb d_M_weight_5 (by decide) ?_
  refine lv_icmp_ge (tgt := 36) hx hb d_M_weight_7 (by decide) (fun hc => ?_) (fun hc => ?_)
  · have hf := cd_t hc hf
    refine lv_iload_n hx hb d_M_weight_36 rfl (lv_at hl 2 rfl) ?_
    exact g_iret hx hb hr hlocks hR hS hf rfl d_M_weight_37
  have hf := cd_f hc hf
  refine lv_iload_n hx hb d_M_weight_10 rfl (lv_at hl 2 rfl) ?_
  refine lv_aload_n hx hb d_M_weight_11 rfl (lv_at hl 0 rfl) ?_
  have ⟨h1, hf⟩ := gd_e hf
  have ⟨x2, h3, hf⟩ := rr_e hf
  refine g_getR hx hb hts hown hK hR fl_M_29 (fun _ => rfl) h1 h3 d_M_weight_12 ?_
  refine lv_bipush (v := 6) hx hb d_M_weight_15 (by decide) ?_
  refine lv_iload_n hx hb d_M_weight_17 rfl (lv_at hl 1 rfl) ?_
  refine lv_imul hx hb d_M_weight_18 ?_
  refine g_nI hf (fun x4 hf => ?_)
  refine lv_iload_n hx hb d_M_weight_19 rfl (lv_at hl 3 rfl) ?_
  refine lv_iadd hx hb d_M_weight_20 ?_
  refine g_nI hf (fun x5 hf => ?_)
  have ⟨h6, hf⟩ := gd_e hf
  have ⟨h7, hf⟩ := gd_e hf
  refine g_iald hx hb hK hR h6 h7 d_M_weight_21 ?_
  refine g_nI hf (fun x8 hf => ?_)
  refine lv_aload_n hx hb d_M_weight_22 rfl (lv_at hl 0 rfl) ?_
  refine lv_iload_n hx hb d_M_weight_23 rfl (lv_at hl 3 rfl) ?_
  have ⟨x9, w10, h11, hf⟩ := kl_e hf
  refine g_ki0 (g_rV (As := [.int a3]) (rest := [.int x8, .int a2]) hx hb hml hown hts hK hR hS (c_M_heft l D cA oc B N a0 a3 w h11) I_M_heft m_1324 mp_51 (gRecv hK hR (ci := 12) rfl h1) rfl rfl (Nat.le_of_ble_eq_true rfl) hl.1 ⟨Nat.le_of_ble_eq_true rfl, Nat.le_of_ble_eq_true rfl⟩ ⟨Nat.le_of_ble_eq_true rfl, Nat.le_of_ble_eq_true rfl⟩ d_M_weight_24) hS (fun H locs hR hS => ?_)
  refine lv_imul hx hb d_M_weight_27 ?_
  refine g_nI hf (fun x12 hf => ?_)
  refine lv_iadd hx hb d_M_weight_28 ?_
  refine g_nI hf (fun x13 hf => ?_)
  refine lv_istore_n (lv' := [(2, .int x13), (0, .ref (B + a0)), (1, .int a1), (3, .int a3)]) hx hb d_M_weight_29 rfl hl (by decide) rfl (fun ls hl => ?_)
  refine g_iinc (lv' := fun x14 => [(3, .int x14), (2, .int x13), (0, .ref (B + a0)), (1, .int a1)]) hf hx hb d_M_weight_30 hl (k := 3) rfl (by decide) (by decide) (fun _ => rfl) (fun x14 ls hf hl => ?_)
  refine lv_goto (tgt := 4) hx hb d_M_weight_33 (by decide) ?_
  exact ih4 a0 a1 x13 x14 w10 _ _ _ hf (lv_sub hl [2, 3, 1, 0] rfl) hR hS
theorem c_M_weight_l4 {r : Int32} {wz : gW} (C : gC p s m args meth c "RidCoppersModel" b_M_weight 4 (some .int) D cA oc B) (a0 : Nat) (a1 : Int32) (a2 : Int32) (a3 : Int32) (w : gW) {ls : Array Slot} {H : Heap} {locs : List Loc} (hl : lv_has ls 4 [(0, .ref (B + a0)), (1, .int a1), (2, .int a2), (3, .int a3)]) (hf : f_M_weight_l4 N a0 a1 a2 a3 w = some (r, wz)) (hR : gRep D cA B w H) (hS : va_S (gA B) s.heap H locs) : W p l e ({ frames := 5, cells := 0, slots := 0, locals := 139 } : Room) s m args below meth c H locs 0 0 (MQ below (gQi D cA B r wz) args s 0 0 (gA B)) (F0 m 4 ls []) := by
  unfold f_M_weight_l4 at hf
  suffices hh : ∀ n : Nat, ∀ (a0 : Nat) (a1 : Int32) (a2 : Int32) (a3 : Int32) (w : gW) (ls : Array Slot) (H : Heap) (locs : List Loc), itr (fun rec (q : Nat × Int32 × Int32 × Int32 × gW) => f_M_weight_b4 N rec q.1 q.2.1 q.2.2.1 q.2.2.2.1 q.2.2.2.2) n (a0, a1, a2, a3, w) = some (r, wz) → lv_has ls 4 [(0, .ref (B + a0)), (1, .int a1), (2, .int a2), (3, .int a3)] → gRep D cA B w H → va_S (gA B) s.heap H locs → W p l e ({ frames := 5, cells := 0, slots := 0, locals := 139 } : Room) s m args below meth c H locs 0 0 (MQ below (gQi D cA B r wz) args s 0 0 (gA B)) (F0 m 4 ls []) from hh N a0 a1 a2 a3 w ls H locs hf hl hR hS
  intro n
  induction n with
  | zero => intro a0 a1 a2 a3 w ls H locs hf; cases hf
  | succ n ihn =>
    intro a0 a1 a2 a3 w ls H locs hf hl hR hS
    exact c_M_weight_b4 (N := N) ihn C a0 a1 a2 a3 w hl ((itr_s _ _ _).symm.trans hf) hR hS
set_option maxRecDepth 20000 in
theorem c_M_weight_b0 {r : Int32} {wz : gW} (C : gC p s m args meth c "RidCoppersModel" b_M_weight 4 (some .int) D cA oc B) (a0 : Nat) (a1 : Int32) (w : gW) {ls : Array Slot} {H : Heap} {locs : List Loc} (hl : lv_has ls 4 [(0, .ref (B + a0)), (1, .int a1)]) (hf : f_M_weight_b0 N a0 a1 w = some (r, wz)) (hR : gRep D cA B w H) (hS : va_S (gA B) s.heap H locs) : W p l e ({ frames := 5, cells := 0, slots := 0, locals := 139 } : Room) s m args below meth c H locs 0 0 (MQ below (gQi D cA B r wz) args s 0 0 (gA B)) (F0 m 0 ls []) := by
  obtain ⟨hx, hb, hml, hown, hts, hr, hlocks, hK, hBs⟩ := id C
  unfold f_M_weight_b0 at hf
  refine lv_iconst (v := 0) hx hb d_M_weight_0 (by decide) ?_
  refine lv_istore_n (lv' := [(2, .int 0), (0, .ref (B + a0)), (1, .int a1)]) hx hb d_M_weight_1 rfl hl (by decide) rfl (fun ls hl => ?_)
  refine lv_iconst (v := 0) hx hb d_M_weight_2 (by decide) ?_
  refine lv_istore_n (lv' := [(3, .int 0), (2, .int 0), (0, .ref (B + a0)), (1, .int a1)]) hx hb d_M_weight_3 rfl hl (by decide) rfl (fun ls hl => ?_)
  exact c_M_weight_l4 C a0 a1 0 0 w (lv_sub hl [2, 3, 1, 0] rfl) hf hR hS
theorem c_M_weight (l : Launch) (D : va_G) (cA : Nat → ClassId) (oc : gO) (B N : Nat) (a0 : Nat) (a1 : Int32) (w : gW) {wz : gW} {r : Int32} (hf : f_M_weight N a0 a1 w = some (r, wz)) : Met l y_M_weight (Cond.code y_M_weight b_M_weight 4 (some .int) :: lw_good) ({ frames := 5, cells := 0, slots := 0, locals := 139 } : Room) (gPre D cA oc B [.ref (B + a0), .int a1] w) (gQi D cA B r wz) 0 0 (gA B) := by
  refine Met.ofW (cc := b_M_weight) (maxL := 4) (ret := (some .int)) (by decide +kernel) rfl ?_
  intro p e s m args below meth c s₁ Bd hml hv
  obtain ⟨hargs, C, hR⟩ := gC.enter (l := l) rfl Bd hml hv
  subst hargs
  have hl := lv_entry ([.ref (B + a0), .int a1]) (n := 4) (Nat.le_of_ble_eq_true rfl)
  rw [lg_entry_eq]
  generalize (lg_sl ([.ref (B + a0), .int a1]) ++ List.replicate (4 - (lg_sl ([.ref (B + a0), .int a1])).length) Slot.unset).toArray = ls at hl ⊢
  have hl : lv_has ls 4 [(0, .ref (B + a0)), (1, .int a1)] := hl
  exact c_M_weight_b0 C a0 a1 w (lv_sub hl [0, 1] rfl) hf hR va_S.rf
theorem d_M_coins_0 : decode b_M_coins 0 = .ok (.iconst 0, 1) := by decide +kernel
theorem d_M_coins_1 : decode b_M_coins 1 = .ok (.istore_n 2, 1) := by decide +kernel
theorem d_M_coins_2 : decode b_M_coins 2 = .ok (.iconst 0, 1) := by decide +kernel
theorem d_M_coins_3 : decode b_M_coins 3 = .ok (.istore_n 3, 1) := by decide +kernel
theorem d_M_coins_4 : decode b_M_coins 4 = .ok (.iload_n 3, 1) := by decide +kernel
theorem d_M_coins_5 : decode b_M_coins 5 = .ok (.bipush 6, 2) := by decide +kernel
theorem d_M_coins_7 : decode b_M_coins 7 = .ok (.if_icmp .ge 23, 3) := by decide +kernel
theorem d_M_coins_10 : decode b_M_coins 10 = .ok (.iload_n 2, 1) := by decide +kernel
theorem d_M_coins_11 : decode b_M_coins 11 = .ok (.aload_n 0, 1) := by decide +kernel
theorem d_M_coins_12 : decode b_M_coins 12 = .ok (.getfield 29, 3) := by decide +kernel
theorem d_M_coins_15 : decode b_M_coins 15 = .ok (.bipush 6, 2) := by decide +kernel
theorem d_M_coins_17 : decode b_M_coins 17 = .ok (.iload_n 1, 1) := by decide +kernel
theorem d_M_coins_18 : decode b_M_coins 18 = .ok (.imul, 1) := by decide +kernel
theorem d_M_coins_19 : decode b_M_coins 19 = .ok (.iload_n 3, 1) := by decide +kernel
theorem d_M_coins_20 : decode b_M_coins 20 = .ok (.iadd, 1) := by decide +kernel
theorem d_M_coins_21 : decode b_M_coins 21 = .ok (.iaload, 1) := by decide +kernel
theorem d_M_coins_22 : decode b_M_coins 22 = .ok (.iadd, 1) := by decide +kernel
theorem d_M_coins_23 : decode b_M_coins 23 = .ok (.istore_n 2, 1) := by decide +kernel
theorem d_M_coins_24 : decode b_M_coins 24 = .ok (.iinc 3 1, 3) := by decide +kernel
theorem d_M_coins_27 : decode b_M_coins 27 = .ok (.goto (-23), 3) := by decide +kernel
theorem d_M_coins_30 : decode b_M_coins 30 = .ok (.iload_n 2, 1) := by decide +kernel
theorem d_M_coins_31 : decode b_M_coins 31 = .ok (.ireturn, 1) := by decide +kernel
set_option maxRecDepth 20000 in
theorem c_M_coins_b4 {r : Int32} {wz : gW} {rec4 : Nat × Int32 × Int32 × Int32 × gW → Option (Int32 × gW)} (ih4 : ∀ (a0 : Nat) (a1 : Int32) (a2 : Int32) (a3 : Int32) (w : gW) (ls : Array Slot) (H : Heap) (locs : List Loc), rec4 (a0, a1, a2, a3, w) = some (r, wz) → lv_has ls 4 [(0, .ref (B + a0)), (1, .int a1), (2, .int a2), (3, .int a3)] → gRep D cA B w H → va_S (gA B) s.heap H locs → W p l e ({ frames := 1, cells := 0, slots := 0, locals := 40 } : Room) s m args below meth c H locs 0 0 (MQ below (gQi D cA B r wz) args s 0 0 (gA B)) (F0 m 4 ls [])) (C : gC p s m args meth c "RidCoppersModel" b_M_coins 4 (some .int) D cA oc B) (a0 : Nat) (a1 : Int32) (a2 : Int32) (a3 : Int32) (w : gW) {ls : Array Slot} {H : Heap} {locs : List Loc} (hl : lv_has ls 4 [(0, .ref (B + a0)), (1, .int a1), (2, .int a2), (3, .int a3)]) (hf : f_M_coins_b4 N rec4 a0 a1 a2 a3 w = some (r, wz)) (hR : gRep D cA B w H) (hS : va_S (gA B) s.heap H locs) : W p l e ({ frames := 1, cells := 0, slots := 0, locals := 40 } : Room) s m args below meth c H locs 0 0 (MQ below (gQi D cA B r wz) args s 0 0 (gA B)) (F0 m 4 ls []) := by
  obtain ⟨hx, hb, hml, hown, hts, hr, hlocks, hK, hBs⟩ := id C
  unfold f_M_coins_b4 at hf
  refine lv_iload_n hx hb d_M_coins_4 rfl (lv_at hl 3 rfl) ?_
  refine lv_bipush (v := 6) hx hb d_M_coins_5 (by decide) ?_
  refine lv_icmp_ge (tgt := 30) hx hb d_M_coins_7 (by decide) (fun hc => ?_) (fun hc => ?_)
  · have hf := cd_t hc hf
    refine lv_iload_n hx hb d_M_coins_30 rfl (lv_at hl 2 rfl) ?_
    exact g_iret hx hb hr hlocks hR hS hf rfl d_M_coins_31
  have hf := cd_f hc hf
  refine lv_iload_n hx hb d_M_coins_10 rfl (lv_at hl 2 rfl) ?_
  refine lv_aload_n hx hb d_M_coins_11 rfl (lv_at hl 0 rfl) ?_
  have ⟨h1, hf⟩ := gd_e hf
  have ⟨x2, h3, hf⟩ := rr_e hf
  refine g_getR hx hb hts hown hK hR fl_M_29 (fun _ => rfl) h1 h3 d_M_coins_12 ?_
  refine lv_bipush (v := 6) hx hb d_M_coins_15 (by decide) ?_
  refine lv_iload_n hx hb d_M_coins_17 rfl (lv_at hl 1 rfl) ?_
  refine lv_imul hx hb d_M_coins_18 ?_
  refine g_nI hf (fun x4 hf => ?_)
  refine lv_iload_n hx hb d_M_coins_19 rfl (lv_at hl 3 rfl) ?_
  refine lv_iadd hx hb d_M_coins_20 ?_
  refine g_nI hf (fun x5 hf => ?_)
  have ⟨h6, hf⟩ := gd_e hf
  have ⟨h7, hf⟩ := gd_e hf
  refine g_iald hx hb hK hR h6 h7 d_M_coins_21 ?_
  refine g_nI hf (fun x8 hf => ?_)
  refine lv_iadd hx hb d_M_coins_22 ?_
  refine g_nI hf (fun x9 hf => ?_)
  refine lv_istore_n (lv' := [(2, .int x9), (0, .ref (B + a0)), (1, .int a1), (3, .int a3)]) hx hb d_M_coins_23 rfl hl (by decide) rfl (fun ls hl => ?_)
  refine g_iinc (lv' := fun x10 => [(3, .int x10), (2, .int x9), (0, .ref (B + a0)), (1, .int a1)]) hf hx hb d_M_coins_24 hl (k := 3) rfl (by decide) (by decide) (fun _ => rfl) (fun x10 ls hf hl => ?_)
  refine lv_goto (tgt := 4) hx hb d_M_coins_27 (by decide) ?_
  exact ih4 a0 a1 x9 x10 w _ _ _ hf (lv_sub hl [2, 3, 1, 0] rfl) hR hS
theorem c_M_coins_l4 {r : Int32} {wz : gW} (C : gC p s m args meth c "RidCoppersModel" b_M_coins 4 (some .int) D cA oc B) (a0 : Nat) (a1 : Int32) (a2 : Int32) (a3 : Int32) (w : gW) {ls : Array Slot} {H : Heap} {locs : List Loc} (hl : lv_has ls 4 [(0, .ref (B + a0)), (1, .int a1), (2, .int a2), (3, .int a3)]) (hf : f_M_coins_l4 N a0 a1 a2 a3 w = some (r, wz)) (hR : gRep D cA B w H) (hS : va_S (gA B) s.heap H locs) : W p l e ({ frames := 1, cells := 0, slots := 0, locals := 40 } : Room) s m args below meth c H locs 0 0 (MQ below (gQi D cA B r wz) args s 0 0 (gA B)) (F0 m 4 ls []) := by
  unfold f_M_coins_l4 at hf
  suffices hh : ∀ n : Nat, ∀ (a0 : Nat) (a1 : Int32) (a2 : Int32) (a3 : Int32) (w : gW) (ls : Array Slot) (H : Heap) (locs : List Loc), itr (fun rec (q : Nat × Int32 × Int32 × Int32 × gW) => f_M_coins_b4 N rec q.1 q.2.1 q.2.2.1 q.2.2.2.1 q.2.2.2.2) n (a0, a1, a2, a3, w) = some (r, wz) → lv_has ls 4 [(0, .ref (B + a0)), (1, .int a1), (2, .int a2), (3, .int a3)] → gRep D cA B w H → va_S (gA B) s.heap H locs → W p l e ({ frames := 1, cells := 0, slots := 0, locals := 40 } : Room) s m args below meth c H locs 0 0 (MQ below (gQi D cA B r wz) args s 0 0 (gA B)) (F0 m 4 ls []) from hh N a0 a1 a2 a3 w ls H locs hf hl hR hS
  intro n
  induction n with
  | zero => intro a0 a1 a2 a3 w ls H locs hf; cases hf
  | succ n ihn =>
    intro a0 a1 a2 a3 w ls H locs hf hl hR hS
    exact c_M_coins_b4 (N := N) ihn C a0 a1 a2 a3 w hl ((itr_s _ _ _).symm.trans hf) hR hS
set_option maxRecDepth 20000 in
theorem c_M_coins_b0 {r : Int32} {wz : gW} (C : gC p s m args meth c "RidCoppersModel" b_M_coins 4 (some .int) D cA oc B) (a0 : Nat) (a1 : Int32) (w : gW) {ls : Array Slot} {H : Heap} {locs : List Loc} (hl : lv_has ls 4 [(0, .ref (B + a0)), (1, .int a1)]) (hf : f_M_coins_b0 N a0 a1 w = some (r, wz)) (hR : gRep D cA B w H) (hS : va_S (gA B) s.heap H locs) : W p l e ({ frames := 1, cells := 0, slots := 0, locals := 40 } : Room) s m args below meth c H locs 0 0 (MQ below (gQi D cA B r wz) args s 0 0 (gA B)) (F0 m 0 ls []) := by
  obtain ⟨hx, hb, hml, hown, hts, hr, hlocks, hK, hBs⟩ := id C
  unfold f_M_coins_b0 at hf
  refine lv_iconst (v := 0) hx hb d_M_coins_0 (by decide) ?_
  refine lv_istore_n (lv' := [(2, .int 0), (0, .ref (B + a0)), (1, .int a1)]) hx hb d_M_coins_1 rfl hl (by decide) rfl (fun ls hl => ?_)
  refine lv_iconst (v := 0) hx hb d_M_coins_2 (by decide) ?_
  refine lv_istore_n (lv' := [(3, .int 0), (2, .int 0), (0, .ref (B + a0)), (1, .int a1)]) hx hb d_M_coins_3 rfl hl (by decide) rfl (fun ls hl => ?_)
  exact c_M_coins_l4 C a0 a1 0 0 w (lv_sub hl [2, 3, 1, 0] rfl) hf hR hS
theorem c_M_coins (l : Launch) (D : va_G) (cA : Nat → ClassId) (oc : gO) (B N : Nat) (a0 : Nat) (a1 : Int32) (w : gW) {wz : gW} {r : Int32} (hf : f_M_coins N a0 a1 w = some (r, wz)) : Met l y_M_coins (Cond.code y_M_coins b_M_coins 4 (some .int) :: lw_good) ({ frames := 1, cells := 0, slots := 0, locals := 40 } : Room) (gPre D cA oc B [.ref (B + a0), .int a1] w) (gQi D cA B r wz) 0 0 (gA B) := by
  refine Met.ofW (cc := b_M_coins) (maxL := 4) (ret := (some .int)) (by decide +kernel) rfl ?_
  intro p e s m args below meth c s₁ Bd hml hv
  obtain ⟨hargs, C, hR⟩ := gC.enter (l := l) rfl Bd hml hv
  subst hargs
  have hl := lv_entry ([.ref (B + a0), .int a1]) (n := 4) (Nat.le_of_ble_eq_true rfl)
  rw [lg_entry_eq]
  generalize (lg_sl ([.ref (B + a0), .int a1]) ++ List.replicate (4 - (lg_sl ([.ref (B + a0), .int a1])).length) Slot.unset).toArray = ls at hl ⊢
  have hl : lv_has ls 4 [(0, .ref (B + a0)), (1, .int a1)] := hl
  exact c_M_coins_b0 C a0 a1 w (lv_sub hl [0, 1] rfl) hf hR va_S.rf
theorem d_M_of_0 : decode b_M_of 0 = .ok (.aload_n 0, 1) := by decide +kernel
theorem d_M_of_1 : decode b_M_of 1 = .ok (.iload_n 1, 1) := by decide +kernel
theorem d_M_of_2 : decode b_M_of 2 = .ok (.invokevirtual 234, 3) := by decide +kernel
theorem d_M_of_5 : decode b_M_of 5 = .ok (.ifCond .ne 5, 3) := by decide +kernel
theorem d_M_of_8 : decode b_M_of 8 = .ok (.iconst (-1), 1) := by decide +kernel
theorem d_M_of_9 : decode b_M_of 9 = .ok (.ireturn, 1) := by decide +kernel
theorem d_M_of_10 : decode b_M_of 10 = .ok (.aload_n 0, 1) := by decide +kernel
theorem d_M_of_11 : decode b_M_of 11 = .ok (.iload_n 2, 1) := by decide +kernel
theorem d_M_of_12 : decode b_M_of 12 = .ok (.bipush 10, 2) := by decide +kernel
theorem d_M_of_14 : decode b_M_of 14 = .ok (.bipush 15, 2) := by decide +kernel
theorem d_M_of_16 : decode b_M_of 16 = .ok (.invokevirtual 230, 3) := by decide +kernel
theorem d_M_of_19 : decode b_M_of 19 = .ok (.ifCond .eq 18, 3) := by decide +kernel
theorem d_M_of_22 : decode b_M_of 22 = .ok (.aload_n 0, 1) := by decide +kernel
theorem d_M_of_23 : decode b_M_of 23 = .ok (.getfield 29, 3) := by decide +kernel
theorem d_M_of_26 : decode b_M_of 26 = .ok (.bipush 6, 2) := by decide +kernel
theorem d_M_of_28 : decode b_M_of 28 = .ok (.iload_n 1, 1) := by decide +kernel
theorem d_M_of_29 : decode b_M_of 29 = .ok (.imul, 1) := by decide +kernel
theorem d_M_of_30 : decode b_M_of 30 = .ok (.iload_n 2, 1) := by decide +kernel
theorem d_M_of_31 : decode b_M_of 31 = .ok (.iadd, 1) := by decide +kernel
theorem d_M_of_32 : decode b_M_of 32 = .ok (.bipush 10, 2) := by decide +kernel
theorem d_M_of_34 : decode b_M_of 34 = .ok (.isub, 1) := by decide +kernel
theorem d_M_of_35 : decode b_M_of 35 = .ok (.iaload, 1) := by decide +kernel
theorem d_M_of_36 : decode b_M_of 36 = .ok (.ireturn, 1) := by decide +kernel
theorem d_M_of_37 : decode b_M_of 37 = .ok (.aload_n 0, 1) := by decide +kernel
theorem d_M_of_38 : decode b_M_of 38 = .ok (.iload_n 2, 1) := by decide +kernel
theorem d_M_of_39 : decode b_M_of 39 = .ok (.bipush 20, 2) := by decide +kernel
theorem d_M_of_41 : decode b_M_of 41 = .ok (.bipush 25, 2) := by decide +kernel
theorem d_M_of_43 : decode b_M_of 43 = .ok (.invokevirtual 230, 3) := by decide +kernel
theorem d_M_of_46 : decode b_M_of 46 = .ok (.ifCond .eq 13, 3) := by decide +kernel
theorem d_M_of_49 : decode b_M_of 49 = .ok (.aload_n 0, 1) := by decide +kernel
theorem d_M_of_50 : decode b_M_of 50 = .ok (.iload_n 1, 1) := by decide +kernel
theorem d_M_of_51 : decode b_M_of 51 = .ok (.iload_n 2, 1) := by decide +kernel
theorem d_M_of_52 : decode b_M_of 52 = .ok (.bipush 20, 2) := by decide +kernel
theorem d_M_of_54 : decode b_M_of 54 = .ok (.isub, 1) := by decide +kernel
theorem d_M_of_55 : decode b_M_of 55 = .ok (.invokevirtual 308, 3) := by decide +kernel
theorem d_M_of_58 : decode b_M_of 58 = .ok (.ireturn, 1) := by decide +kernel
theorem d_M_of_59 : decode b_M_of 59 = .ok (.iload_n 2, 1) := by decide +kernel
theorem d_M_of_60 : decode b_M_of 60 = .ok (.tableswitch 69 0 4 #[36, 43, 50, 57, 63], 36) := by decide +kernel
theorem d_M_of_96 : decode b_M_of 96 = .ok (.aload_n 0, 1) := by decide +kernel
theorem d_M_of_97 : decode b_M_of 97 = .ok (.getfield 17, 3) := by decide +kernel
theorem d_M_of_100 : decode b_M_of 100 = .ok (.iload_n 1, 1) := by decide +kernel
theorem d_M_of_101 : decode b_M_of 101 = .ok (.iaload, 1) := by decide +kernel
theorem d_M_of_102 : decode b_M_of 102 = .ok (.ireturn, 1) := by decide +kernel
theorem d_M_of_103 : decode b_M_of 103 = .ok (.aload_n 0, 1) := by decide +kernel
theorem d_M_of_104 : decode b_M_of 104 = .ok (.getfield 20, 3) := by decide +kernel
theorem d_M_of_107 : decode b_M_of 107 = .ok (.iload_n 1, 1) := by decide +kernel
theorem d_M_of_108 : decode b_M_of 108 = .ok (.iaload, 1) := by decide +kernel
theorem d_M_of_109 : decode b_M_of 109 = .ok (.ireturn, 1) := by decide +kernel
theorem d_M_of_110 : decode b_M_of 110 = .ok (.aload_n 0, 1) := by decide +kernel
theorem d_M_of_111 : decode b_M_of 111 = .ok (.getfield 23, 3) := by decide +kernel
theorem d_M_of_114 : decode b_M_of 114 = .ok (.iload_n 1, 1) := by decide +kernel
theorem d_M_of_115 : decode b_M_of 115 = .ok (.iaload, 1) := by decide +kernel
theorem d_M_of_116 : decode b_M_of 116 = .ok (.ireturn, 1) := by decide +kernel
theorem d_M_of_117 : decode b_M_of 117 = .ok (.aload_n 0, 1) := by decide +kernel
theorem d_M_of_118 : decode b_M_of 118 = .ok (.iload_n 1, 1) := by decide +kernel
theorem d_M_of_119 : decode b_M_of 119 = .ok (.invokevirtual 312, 3) := by decide +kernel
theorem d_M_of_122 : decode b_M_of 122 = .ok (.ireturn, 1) := by decide +kernel
theorem d_M_of_123 : decode b_M_of 123 = .ok (.aload_n 0, 1) := by decide +kernel
theorem d_M_of_124 : decode b_M_of 124 = .ok (.iload_n 1, 1) := by decide +kernel
theorem d_M_of_125 : decode b_M_of 125 = .ok (.invokevirtual 315, 3) := by decide +kernel
theorem d_M_of_128 : decode b_M_of 128 = .ok (.ireturn, 1) := by decide +kernel
theorem d_M_of_129 : decode b_M_of 129 = .ok (.iconst (-1), 1) := by decide +kernel
theorem d_M_of_130 : decode b_M_of 130 = .ok (.ireturn, 1) := by decide +kernel
set_option maxRecDepth 20000 in
theorem c_M_of_b0 {r : Int32} {wz : gW} (C : gC p s m args meth c "RidCoppersModel" b_M_of 3 (some .int) D cA oc B) (a0 : Nat) (a1 : Int32) (a2 : Int32) (w : gW) {ls : Array Slot} {H : Heap} {locs : List Loc} (hl : lv_has ls 3 [(0, .ref (B + a0)), (1, .int a1), (2, .int a2)]) (hf : f_M_of_b0 N a0 a1 a2 w = some (r, wz)) (hR : gRep D cA B w H) (hS : va_S (gA B) s.heap H locs) : W p l e ({ frames := 6, cells := 0, slots := 0, locals := 162 } : Room) s m args below meth c H locs 0 0 (MQ below (gQi D cA B r wz) args s 0 0 (gA B)) (F0 m 0 ls []) := by
  obtain ⟨hx, hb, hml, hown, hts, hr, hlocks, hK, hBs⟩ := id C
  unfold f_M_of_b0 at hf
  refine lv_aload_n hx hb d_M_of_0 rfl (lv_at hl 0 rfl) ?_
  refine lv_iload_n hx hb d_M_of_1 rfl (lv_at hl 1 rfl) ?_
  have ⟨h4, hf⟩ := gd_e hf
  have ⟨x1, w2, h3, hf⟩ := kl_e hf
  refine g_ki0 (g_rV (As := [.int a1]) (rest := []) hx hb hml hown hts hK hR hS (c_M_isPayer l D cA oc B N a0 a1 w h3) I_M_isPayer m_1212 mp_28 (gRecv hK hR (ci := 12) rfl h4) rfl rfl (Nat.le_of_ble_eq_true rfl) hl.1 ⟨Nat.le_of_ble_eq_true rfl, Nat.le_of_ble_eq_true rfl⟩ ⟨Nat.le_of_ble_eq_true rfl, Nat.le_of_ble_eq_true rfl⟩ d_M_of_2) hS (fun H locs hR hS => ?_)
  refine lv_if_ne (tgt := 10) hx hb d_M_of_5 (by decide) (fun hc => ?_) (fun hc => ?_)
  · have hf := cd_f hc hf
    refine lv_aload_n hx hb d_M_of_10 rfl (lv_at hl 0 rfl) ?_
    refine lv_iload_n hx hb d_M_of_11 rfl (lv_at hl 2 rfl) ?_
    refine lv_bipush (v := 10) hx hb d_M_of_12 (by decide) ?_
    refine lv_bipush (v := 15) hx hb d_M_of_14 (by decide) ?_
    have ⟨h8, hf⟩ := gd_e hf
    have ⟨x5, w6, h7, hf⟩ := kl_e hf
    refine g_ki0 (g_rV (As := [.int a2, .int 10, .int 15]) (rest := []) hx hb hml hown hts hK hR hS (c_M_in l D cA oc B N a0 a2 10 15 w2 h7) I_M_in m_1204 mp_27 (gRecv hK hR (ci := 12) rfl h8) rfl rfl (Nat.le_of_ble_eq_true rfl) hl.1 ⟨Nat.le_of_ble_eq_true rfl, Nat.le_of_ble_eq_true rfl⟩ ⟨Nat.le_of_ble_eq_true rfl, Nat.le_of_ble_eq_true rfl⟩ d_M_of_16) hS (fun H locs hR hS => ?_)
    refine lv_if_eq (tgt := 37) hx hb d_M_of_19 (by decide) (fun hc => ?_) (fun hc => ?_)
    · have hf := cd_t hc hf
      refine lv_aload_n hx hb d_M_of_37 rfl (lv_at hl 0 rfl) ?_
      refine lv_iload_n hx hb d_M_of_38 rfl (lv_at hl 2 rfl) ?_
      refine lv_bipush (v := 20) hx hb d_M_of_39 (by decide) ?_
      refine lv_bipush (v := 25) hx hb d_M_of_41 (by decide) ?_
      have ⟨h12, hf⟩ := gd_e hf
      have ⟨x9, w10, h11, hf⟩ := kl_e hf
      refine g_ki0 (g_rV (As := [.int a2, .int 20, .int 25]) (rest := []) hx hb hml hown hts hK hR hS (c_M_in l D cA oc B N a0 a2 20 25 w6 h11) I_M_in m_1204 mp_27 (gRecv hK hR (ci := 12) rfl h12) rfl rfl (Nat.le_of_ble_eq_true rfl) hl.1 ⟨Nat.le_of_ble_eq_true rfl, Nat.le_of_ble_eq_true rfl⟩ ⟨Nat.le_of_ble_eq_true rfl, Nat.le_of_ble_eq_true rfl⟩ d_M_of_43) hS (fun H locs hR hS => ?_)
      refine lv_if_eq (tgt := 59) hx hb d_M_of_46 (by decide) (fun hc => ?_) (fun hc => ?_)
      · have hf := cd_t hc hf
        refine lv_iload_n hx hb d_M_of_59 rfl (lv_at hl 2 rfl) ?_
        by_cases hc13 : a2 = 0
        · refine lv_tableIn (off := 36) (tgt := 96) hx hb d_M_of_60 (by rw [hc13]; decide) (by rw [hc13]; decide) (by rw [hc13]; rfl) (by decide) ?_
          have hf := cd_t hc13 hf
          refine lv_aload_n hx hb d_M_of_96 rfl (lv_at hl 0 rfl) ?_
          have ⟨h14, hf⟩ := gd_e hf
          have ⟨x15, h16, hf⟩ := rr_e hf
          refine g_getR hx hb hts hown hK hR fl_M_17 (fun _ => rfl) h14 h16 d_M_of_97 ?_
          refine lv_iload_n hx hb d_M_of_100 rfl (lv_at hl 1 rfl) ?_
          have ⟨h17, hf⟩ := gd_e hf
          have ⟨h18, hf⟩ := gd_e hf
          refine g_iald hx hb hK hR h17 h18 d_M_of_101 ?_
          refine g_nI hf (fun x19 hf => ?_)
          exact g_iret hx hb hr hlocks hR hS hf rfl d_M_of_102
        have hf := cd_f hc13 hf
        by_cases hc20 : a2 = 1
        · refine lv_tableIn (off := 43) (tgt := 103) hx hb d_M_of_60 (by rw [hc20]; decide) (by rw [hc20]; decide) (by rw [hc20]; rfl) (by decide) ?_
          have hf := cd_t hc20 hf
          refine lv_aload_n hx hb d_M_of_103 rfl (lv_at hl 0 rfl) ?_
          have ⟨h21, hf⟩ := gd_e hf
          have ⟨x22, h23, hf⟩ := rr_e hf
          refine g_getR hx hb hts hown hK hR fl_M_20 (fun _ => rfl) h21 h23 d_M_of_104 ?_
          refine lv_iload_n hx hb d_M_of_107 rfl (lv_at hl 1 rfl) ?_
          have ⟨h24, hf⟩ := gd_e hf
          have ⟨h25, hf⟩ := gd_e hf
          refine g_iald hx hb hK hR h24 h25 d_M_of_108 ?_
          refine g_nI hf (fun x26 hf => ?_)
          exact g_iret hx hb hr hlocks hR hS hf rfl d_M_of_109
        have hf := cd_f hc20 hf
        by_cases hc27 : a2 = 2
        · refine lv_tableIn (off := 50) (tgt := 110) hx hb d_M_of_60 (by rw [hc27]; decide) (by rw [hc27]; decide) (by rw [hc27]; rfl) (by decide) ?_
          have hf := cd_t hc27 hf
          refine lv_aload_n hx hb d_M_of_110 rfl (lv_at hl 0 rfl) ?_
          have ⟨h28, hf⟩ := gd_e hf
          have ⟨x29, h30, hf⟩ := rr_e hf
          refine g_getR hx hb hts hown hK hR fl_M_23 (fun _ => rfl) h28 h30 d_M_of_111 ?_
          refine lv_iload_n hx hb d_M_of_114 rfl (lv_at hl 1 rfl) ?_
          have ⟨h31, hf⟩ := gd_e hf
          have ⟨h32, hf⟩ := gd_e hf
          refine g_iald hx hb hK hR h31 h32 d_M_of_115 ?_
          refine g_nI hf (fun x33 hf => ?_)
          exact g_iret hx hb hr hlocks hR hS hf rfl d_M_of_116
        have hf := cd_f hc27 hf
        by_cases hc34 : a2 = 3
        · refine lv_tableIn (off := 57) (tgt := 117) hx hb d_M_of_60 (by rw [hc34]; decide) (by rw [hc34]; decide) (by rw [hc34]; rfl) (by decide) ?_
          have hf := cd_t hc34 hf
          refine lv_aload_n hx hb d_M_of_117 rfl (lv_at hl 0 rfl) ?_
          refine lv_iload_n hx hb d_M_of_118 rfl (lv_at hl 1 rfl) ?_
          have ⟨h38, hf⟩ := gd_e hf
          have ⟨x35, w36, h37, hf⟩ := kl_e hf
          refine g_ki0 (g_rV (As := [.int a1]) (rest := []) hx hb hml hown hts hK hR hS (c_M_weight l D cA oc B N a0 a1 w10 h37) I_M_weight m_1320 mp_50 (gRecv hK hR (ci := 12) rfl h38) rfl rfl (Nat.le_of_ble_eq_true rfl) hl.1 ⟨Nat.le_of_ble_eq_true rfl, Nat.le_of_ble_eq_true rfl⟩ ⟨Nat.le_of_ble_eq_true rfl, Nat.le_of_ble_eq_true rfl⟩ d_M_of_119) hS (fun H locs hR hS => ?_)
          exact g_iret hx hb hr hlocks hR hS hf rfl d_M_of_122
        have hf := cd_f hc34 hf
        by_cases hc39 : a2 = 4
        · refine lv_tableIn (off := 63) (tgt := 123) hx hb d_M_of_60 (by rw [hc39]; decide) (by rw [hc39]; decide) (by rw [hc39]; rfl) (by decide) ?_
          have hf := cd_t hc39 hf
          refine lv_aload_n hx hb d_M_of_123 rfl (lv_at hl 0 rfl) ?_
          refine lv_iload_n hx hb d_M_of_124 rfl (lv_at hl 1 rfl) ?_
          have ⟨h43, hf⟩ := gd_e hf
          have ⟨x40, w41, h42, hf⟩ := kl_e hf
          refine g_ki0 (g_rV (As := [.int a1]) (rest := []) hx hb hml hown hts hK hR hS (c_M_coins l D cA oc B N a0 a1 w10 h42) I_M_coins m_1328 mp_52 (gRecv hK hR (ci := 12) rfl h43) rfl rfl (Nat.le_of_ble_eq_true rfl) hl.1 ⟨Nat.le_of_ble_eq_true rfl, Nat.le_of_ble_eq_true rfl⟩ ⟨Nat.le_of_ble_eq_true rfl, Nat.le_of_ble_eq_true rfl⟩ d_M_of_125) hS (fun H locs hR hS => ?_)
          exact g_iret hx hb hr hlocks hR hS hf rfl d_M_of_128
        have hf := cd_f hc39 hf
        have hout : a2.toInt < 0 ∨ 4 < a2.toInt := by
          have := lv_neT (a := 0) hc13 rfl
          have := lv_neT (a := 1) hc20 rfl
          have := lv_neT (a := 2) hc27 rfl
          have := lv_neT (a := 3) hc34 rfl
          have := lv_neT (a := 4) hc39 rfl
          omega
        refine lv_tableOut (tgt := 129) hx hb d_M_of_60 hout (by decide) ?_
        refine lv_iconst (v := (-1)) hx hb d_M_of_129 (by decide) ?_
        exact g_iret hx hb hr hlocks hR hS hf rfl d_M_of_130
      have hf := cd_f hc hf
      refine lv_aload_n hx hb d_M_of_49 rfl (lv_at hl 0 rfl) ?_
      refine lv_iload_n hx hb d_M_of_50 rfl (lv_at hl 1 rfl) ?_
      refine lv_iload_n hx hb d_M_of_51 rfl (lv_at hl 2 rfl) ?_
      refine lv_bipush (v := 20) hx hb d_M_of_52 (by decide) ?_
      refine lv_isub hx hb d_M_of_54 ?_
      refine g_nI hf (fun x44 hf => ?_)
      have ⟨h48, hf⟩ := gd_e hf
      have ⟨x45, w46, h47, hf⟩ := kl_e hf
      refine g_ki0 (g_rV (As := [.int a1, .int x44]) (rest := []) hx hb hml hown hts hK hR hS (c_M_kept l D cA oc B N a0 a1 x44 w10 h47) I_M_kept m_1296 mp_44 (gRecv hK hR (ci := 12) rfl h48) rfl rfl (Nat.le_of_ble_eq_true rfl) hl.1 ⟨Nat.le_of_ble_eq_true rfl, Nat.le_of_ble_eq_true rfl⟩ ⟨Nat.le_of_ble_eq_true rfl, Nat.le_of_ble_eq_true rfl⟩ d_M_of_55) hS (fun H locs hR hS => ?_)
      exact g_iret hx hb hr hlocks hR hS hf rfl d_M_of_58
    have hf := cd_f hc hf
    refine lv_aload_n hx hb d_M_of_22 rfl (lv_at hl 0 rfl) ?_
    have ⟨h49, hf⟩ := gd_e hf
    have ⟨x50, h51, hf⟩ := rr_e hf
    refine g_getR hx hb hts hown hK hR fl_M_29 (fun _ => rfl) h49 h51 d_M_of_23 ?_
    refine lv_bipush (v := 6) hx hb d_M_of_26 (by decide) ?_
    refine lv_iload_n hx hb d_M_of_28 rfl (lv_at hl 1 rfl) ?_
    refine lv_imul hx hb d_M_of_29 ?_
    refine g_nI hf (fun x52 hf => ?_)
    refine lv_iload_n hx hb d_M_of_30 rfl (lv_at hl 2 rfl) ?_
    refine lv_iadd hx hb d_M_of_31 ?_
    refine g_nI hf (fun x53 hf => ?_)
    refine lv_bipush (v := 10) hx hb d_M_of_32 (by decide) ?_
    refine lv_isub hx hb d_M_of_34 ?_
    refine g_nI hf (fun x54 hf => ?_)
    have ⟨h55, hf⟩ := gd_e hf
    have ⟨h56, hf⟩ := gd_e hf
    refine g_iald hx hb hK hR h55 h56 d_M_of_35 ?_
    refine g_nI hf (fun x57 hf => ?_)
    exact g_iret hx hb hr hlocks hR hS hf rfl d_M_of_36
  have hf := cd_t hc hf
  refine lv_iconst (v := (-1)) hx hb d_M_of_8 (by decide) ?_
  exact g_iret hx hb hr hlocks hR hS hf rfl d_M_of_9
theorem c_M_of (l : Launch) (D : va_G) (cA : Nat → ClassId) (oc : gO) (B N : Nat) (a0 : Nat) (a1 : Int32) (a2 : Int32) (w : gW) {wz : gW} {r : Int32} (hf : f_M_of N a0 a1 a2 w = some (r, wz)) : Met l y_M_of (Cond.code y_M_of b_M_of 3 (some .int) :: lw_good) ({ frames := 6, cells := 0, slots := 0, locals := 162 } : Room) (gPre D cA oc B [.ref (B + a0), .int a1, .int a2] w) (gQi D cA B r wz) 0 0 (gA B) := by
  refine Met.ofW (cc := b_M_of) (maxL := 3) (ret := (some .int)) (by decide +kernel) rfl ?_
  intro p e s m args below meth c s₁ Bd hml hv
  obtain ⟨hargs, C, hR⟩ := gC.enter (l := l) rfl Bd hml hv
  subst hargs
  have hl := lv_entry ([.ref (B + a0), .int a1, .int a2]) (n := 3) (Nat.le_of_ble_eq_true rfl)
  rw [lg_entry_eq]
  generalize (lg_sl ([.ref (B + a0), .int a1, .int a2]) ++ List.replicate (3 - (lg_sl ([.ref (B + a0), .int a1, .int a2])).length) Slot.unset).toArray = ls at hl ⊢
  have hl : lv_has ls 3 [(0, .ref (B + a0)), (1, .int a1), (2, .int a2)] := hl
  exact c_M_of_b0 C a0 a1 a2 w (lv_sub hl [0, 1, 2] rfl) hf hR va_S.rf
theorem d_M_told_0 : decode b_M_told 0 = .ok (.iload_n 1, 1) := by decide +kernel
theorem d_M_told_1 : decode b_M_told 1 = .ok (.ifCond .ne 10, 3) := by decide +kernel
theorem d_M_told_4 : decode b_M_told 4 = .ok (.aload_n 0, 1) := by decide +kernel
theorem d_M_told_5 : decode b_M_told 5 = .ok (.invokevirtual 318, 3) := by decide +kernel
theorem d_M_told_8 : decode b_M_told 8 = .ok (.goto 51, 3) := by decide +kernel
theorem d_M_told_11 : decode b_M_told 11 = .ok (.aload_n 0, 1) := by decide +kernel
theorem d_M_told_12 : decode b_M_told 12 = .ok (.iload_n 1, 1) := by decide +kernel
theorem d_M_told_13 : decode b_M_told 13 = .ok (.bipush 10, 2) := by decide +kernel
theorem d_M_told_15 : decode b_M_told 15 = .ok (.bipush 15, 2) := by decide +kernel
theorem d_M_told_17 : decode b_M_told 17 = .ok (.invokevirtual 230, 3) := by decide +kernel
theorem d_M_told_20 : decode b_M_told 20 = .ok (.ifCond .eq 15, 3) := by decide +kernel
theorem d_M_told_23 : decode b_M_told 23 = .ok (.aload_n 0, 1) := by decide +kernel
theorem d_M_told_24 : decode b_M_told 24 = .ok (.getfield 32, 3) := by decide +kernel
theorem d_M_told_27 : decode b_M_told 27 = .ok (.iload_n 1, 1) := by decide +kernel
theorem d_M_told_28 : decode b_M_told 28 = .ok (.bipush 10, 2) := by decide +kernel
theorem d_M_told_30 : decode b_M_told 30 = .ok (.isub, 1) := by decide +kernel
theorem d_M_told_31 : decode b_M_told 31 = .ok (.iaload, 1) := by decide +kernel
theorem d_M_told_32 : decode b_M_told 32 = .ok (.goto 27, 3) := by decide +kernel
theorem d_M_told_35 : decode b_M_told 35 = .ok (.aload_n 0, 1) := by decide +kernel
theorem d_M_told_36 : decode b_M_told 36 = .ok (.iload_n 1, 1) := by decide +kernel
theorem d_M_told_37 : decode b_M_told 37 = .ok (.bipush 20, 2) := by decide +kernel
theorem d_M_told_39 : decode b_M_told 39 = .ok (.bipush 25, 2) := by decide +kernel
theorem d_M_told_41 : decode b_M_told 41 = .ok (.invokevirtual 230, 3) := by decide +kernel
theorem d_M_told_44 : decode b_M_told 44 = .ok (.ifCond .eq 14, 3) := by decide +kernel
theorem d_M_told_47 : decode b_M_told 47 = .ok (.aload_n 0, 1) := by decide +kernel
theorem d_M_told_48 : decode b_M_told 48 = .ok (.iload_n 1, 1) := by decide +kernel
theorem d_M_told_49 : decode b_M_told 49 = .ok (.bipush 20, 2) := by decide +kernel
theorem d_M_told_51 : decode b_M_told 51 = .ok (.isub, 1) := by decide +kernel
theorem d_M_told_52 : decode b_M_told 52 = .ok (.invokevirtual 305, 3) := by decide +kernel
theorem d_M_told_55 : decode b_M_told 55 = .ok (.goto 4, 3) := by decide +kernel
theorem d_M_told_58 : decode b_M_told 58 = .ok (.iconst (-1), 1) := by decide +kernel
theorem d_M_told_59 : decode b_M_told 59 = .ok (.ireturn, 1) := by decide +kernel
set_option maxRecDepth 20000 in
theorem c_M_told_b0 {r : Int32} {wz : gW} (C : gC p s m args meth c "RidCoppersModel" b_M_told 2 (some .int) D cA oc B) (a0 : Nat) (a1 : Int32) (w : gW) {ls : Array Slot} {H : Heap} {locs : List Loc} (hl : lv_has ls 2 [(0, .ref (B + a0)), (1, .int a1)]) (hf : f_M_told_b0 N a0 a1 w = some (r, wz)) (hR : gRep D cA B w H) (hS : va_S (gA B) s.heap H locs) : W p l e ({ frames := 5, cells := 0, slots := 0, locals := 139 } : Room) s m args below meth c H locs 0 0 (MQ below (gQi D cA B r wz) args s 0 0 (gA B)) (F0 m 0 ls []) := by
  obtain ⟨hx, hb, hml, hown, hts, hr, hlocks, hK, hBs⟩ := id C
  unfold f_M_told_b0 at hf
  refine lv_iload_n hx hb d_M_told_0 rfl (lv_at hl 1 rfl) ?_
  refine lv_if_ne (tgt := 11) hx hb d_M_told_1 (by decide) (fun hc => ?_) (fun hc => ?_)
  · have hf := cd_f hc hf
    refine lv_aload_n hx hb d_M_told_11 rfl (lv_at hl 0 rfl) ?_
    refine lv_iload_n hx hb d_M_told_12 rfl (lv_at hl 1 rfl) ?_
    refine lv_bipush (v := 10) hx hb d_M_told_13 (by decide) ?_
    refine lv_bipush (v := 15) hx hb d_M_told_15 (by decide) ?_
    have ⟨h4, hf⟩ := gd_e hf
    have ⟨x1, w2, h3, hf⟩ := kl_e hf
    refine g_ki0 (g_rV (As := [.int a1, .int 10, .int 15]) (rest := []) hx hb hml hown hts hK hR hS (c_M_in l D cA oc B N a0 a1 10 15 w h3) I_M_in m_1204 mp_27 (gRecv hK hR (ci := 12) rfl h4) rfl rfl (Nat.le_of_ble_eq_true rfl) hl.1 ⟨Nat.le_of_ble_eq_true rfl, Nat.le_of_ble_eq_true rfl⟩ ⟨Nat.le_of_ble_eq_true rfl, Nat.le_of_ble_eq_true rfl⟩ d_M_told_17) hS (fun H locs hR hS => ?_)
    refine lv_if_eq (tgt := 35) hx hb d_M_told_20 (by decide) (fun hc => ?_) (fun hc => ?_)
    · have hf := cd_t hc hf
      refine lv_aload_n hx hb d_M_told_35 rfl (lv_at hl 0 rfl) ?_
      refine lv_iload_n hx hb d_M_told_36 rfl (lv_at hl 1 rfl) ?_
      refine lv_bipush (v := 20) hx hb d_M_told_37 (by decide) ?_
      refine lv_bipush (v := 25) hx hb d_M_told_39 (by decide) ?_
      have ⟨h8, hf⟩ := gd_e hf
      have ⟨x5, w6, h7, hf⟩ := kl_e hf
      refine g_ki0 (g_rV (As := [.int a1, .int 20, .int 25]) (rest := []) hx hb hml hown hts hK hR hS (c_M_in l D cA oc B N a0 a1 20 25 w2 h7) I_M_in m_1204 mp_27 (gRecv hK hR (ci := 12) rfl h8) rfl rfl (Nat.le_of_ble_eq_true rfl) hl.1 ⟨Nat.le_of_ble_eq_true rfl, Nat.le_of_ble_eq_true rfl⟩ ⟨Nat.le_of_ble_eq_true rfl, Nat.le_of_ble_eq_true rfl⟩ d_M_told_41) hS (fun H locs hR hS => ?_)
      refine lv_if_eq (tgt := 58) hx hb d_M_told_44 (by decide) (fun hc => ?_) (fun hc => ?_)
      · have hf := cd_t hc hf
        refine lv_iconst (v := (-1)) hx hb d_M_told_58 (by decide) ?_
        exact g_iret hx hb hr hlocks hR hS hf rfl d_M_told_59
      have hf := cd_f hc hf
      refine lv_aload_n hx hb d_M_told_47 rfl (lv_at hl 0 rfl) ?_
      refine lv_iload_n hx hb d_M_told_48 rfl (lv_at hl 1 rfl) ?_
      refine lv_bipush (v := 20) hx hb d_M_told_49 (by decide) ?_
      refine lv_isub hx hb d_M_told_51 ?_
      refine g_nI hf (fun x9 hf => ?_)
      have ⟨h13, hf⟩ := gd_e hf
      have ⟨x10, w11, h12, hf⟩ := kl_e hf
      refine g_ki0 (g_rV (As := [.int x9]) (rest := []) hx hb hml hown hts hK hR hS (c_M_heft l D cA oc B N a0 x9 w6 h12) I_M_heft m_1324 mp_51 (gRecv hK hR (ci := 12) rfl h13) rfl rfl (Nat.le_of_ble_eq_true rfl) hl.1 ⟨Nat.le_of_ble_eq_true rfl, Nat.le_of_ble_eq_true rfl⟩ ⟨Nat.le_of_ble_eq_true rfl, Nat.le_of_ble_eq_true rfl⟩ d_M_told_52) hS (fun H locs hR hS => ?_)
      refine lv_goto (tgt := 59) hx hb d_M_told_55 (by decide) ?_
      exact g_iret hx hb hr hlocks hR hS hf rfl d_M_told_59
    have hf := cd_f hc hf
    refine lv_aload_n hx hb d_M_told_23 rfl (lv_at hl 0 rfl) ?_
    have ⟨h14, hf⟩ := gd_e hf
    have ⟨x15, h16, hf⟩ := rr_e hf
    refine g_getR hx hb hts hown hK hR fl_M_32 (fun _ => rfl) h14 h16 d_M_told_24 ?_
    refine lv_iload_n hx hb d_M_told_27 rfl (lv_at hl 1 rfl) ?_
    refine lv_bipush (v := 10) hx hb d_M_told_28 (by decide) ?_
    refine lv_isub hx hb d_M_told_30 ?_
    refine g_nI hf (fun x17 hf => ?_)
    have ⟨h18, hf⟩ := gd_e hf
    have ⟨h19, hf⟩ := gd_e hf
    refine g_iald hx hb hK hR h18 h19 d_M_told_31 ?_
    refine g_nI hf (fun x20 hf => ?_)
    refine lv_goto (tgt := 59) hx hb d_M_told_32 (by decide) ?_
    exact g_iret hx hb hr hlocks hR hS hf rfl d_M_told_59
  have hf := cd_t hc hf
  refine lv_aload_n hx hb d_M_told_4 rfl (lv_at hl 0 rfl) ?_
  have ⟨h24, hf⟩ := gd_e hf
  have ⟨x21, w22, h23, hf⟩ := kl_e hf
  refine g_ki0 (g_rV (As := []) (rest := []) hx hb hml hown hts hK hR hS (c_M_mostNow l D cA oc B N a0 w h23) I_M_mostNow m_1336 mp_53 (gRecv hK hR (ci := 12) rfl h24) rfl rfl (Nat.le_of_ble_eq_true rfl) hl.1 ⟨Nat.le_of_ble_eq_true rfl, Nat.le_of_ble_eq_true rfl⟩ ⟨Nat.le_of_ble_eq_true rfl, Nat.le_of_ble_eq_true rfl⟩ d_M_told_5) hS (fun H locs hR hS => ?_)
  refine lv_goto (tgt := 59) hx hb d_M_told_8 (by decide) ?_
  exact g_iret hx hb hr hlocks hR hS hf rfl d_M_told_59
theorem c_M_told (l : Launch) (D : va_G) (cA : Nat → ClassId) (oc : gO) (B N : Nat) (a0 : Nat) (a1 : Int32) (w : gW) {wz : gW} {r : Int32} (hf : f_M_told N a0 a1 w = some (r, wz)) : Met l y_M_told (Cond.code y_M_told b_M_told 2 (some .int) :: lw_good) ({ frames := 5, cells := 0, slots := 0, locals := 139 } : Room) (gPre D cA oc B [.ref (B + a0), .int a1] w) (gQi D cA B r wz) 0 0 (gA B) := by
  refine Met.ofW (cc := b_M_told) (maxL := 2) (ret := (some .int)) (by decide +kernel) rfl ?_
  intro p e s m args below meth c s₁ Bd hml hv
  obtain ⟨hargs, C, hR⟩ := gC.enter (l := l) rfl Bd hml hv
  subst hargs
  have hl := lv_entry ([.ref (B + a0), .int a1]) (n := 2) (Nat.le_of_ble_eq_true rfl)
  rw [lg_entry_eq]
  generalize (lg_sl ([.ref (B + a0), .int a1]) ++ List.replicate (2 - (lg_sl ([.ref (B + a0), .int a1])).length) Slot.unset).toArray = ls at hl ⊢
  have hl : lv_has ls 2 [(0, .ref (B + a0)), (1, .int a1)] := hl
  exact c_M_told_b0 C a0 a1 w (lv_sub hl [0, 1] rfl) hf hR va_S.rf
theorem d_M_layLimits_0 : decode b_M_layLimits 0 = .ok (.aload_n 0, 1) := by decide +kernel
theorem d_M_layLimits_1 : decode b_M_layLimits 1 = .ok (.invokevirtual 318, 3) := by decide +kernel
theorem d_M_layLimits_4 : decode b_M_layLimits 4 = .ok (.istore_n 2, 1) := by decide +kernel
theorem d_M_layLimits_5 : decode b_M_layLimits 5 = .ok (.iconst 0, 1) := by decide +kernel
theorem d_M_layLimits_6 : decode b_M_layLimits 6 = .ok (.istore_n 3, 1) := by decide +kernel
theorem d_M_layLimits_7 : decode b_M_layLimits 7 = .ok (.iload_n 3, 1) := by decide +kernel
theorem d_M_layLimits_8 : decode b_M_layLimits 8 = .ok (.bipush 6, 2) := by decide +kernel
theorem d_M_layLimits_10 : decode b_M_layLimits 10 = .ok (.if_icmp .ge 74, 3) := by decide +kernel
theorem d_M_layLimits_13 : decode b_M_layLimits 13 = .ok (.aload_n 0, 1) := by decide +kernel
theorem d_M_layLimits_14 : decode b_M_layLimits 14 = .ok (.getfield 29, 3) := by decide +kernel
theorem d_M_layLimits_17 : decode b_M_layLimits 17 = .ok (.bipush 6, 2) := by decide +kernel
theorem d_M_layLimits_19 : decode b_M_layLimits 19 = .ok (.iload_n 1, 1) := by decide +kernel
theorem d_M_layLimits_20 : decode b_M_layLimits 20 = .ok (.imul, 1) := by decide +kernel
theorem d_M_layLimits_21 : decode b_M_layLimits 21 = .ok (.iload_n 3, 1) := by decide +kernel
theorem d_M_layLimits_22 : decode b_M_layLimits 22 = .ok (.iadd, 1) := by decide +kernel
theorem d_M_layLimits_23 : decode b_M_layLimits 23 = .ok (.iaload, 1) := by decide +kernel
theorem d_M_layLimits_24 : decode b_M_layLimits 24 = .ok (.aload_n 0, 1) := by decide +kernel
theorem d_M_layLimits_25 : decode b_M_layLimits 25 = .ok (.iload_n 1, 1) := by decide +kernel
theorem d_M_layLimits_26 : decode b_M_layLimits 26 = .ok (.iload_n 3, 1) := by decide +kernel
theorem d_M_layLimits_27 : decode b_M_layLimits 27 = .ok (.invokevirtual 308, 3) := by decide +kernel
theorem d_M_layLimits_30 : decode b_M_layLimits 30 = .ok (.isub, 1) := by decide +kernel
theorem d_M_layLimits_31 : decode b_M_layLimits 31 = .ok (.istore 4, 2) := by decide +kernel
theorem d_M_layLimits_33 : decode b_M_layLimits 33 = .ok (.aload_n 0, 1) := by decide +kernel
theorem d_M_layLimits_34 : decode b_M_layLimits 34 = .ok (.getfield 90, 3) := by decide +kernel
theorem d_M_layLimits_37 : decode b_M_layLimits 37 = .ok (.iload_n 3, 1) := by decide +kernel
theorem d_M_layLimits_38 : decode b_M_layLimits 38 = .ok (.iload 4, 2) := by decide +kernel
theorem d_M_layLimits_40 : decode b_M_layLimits 40 = .ok (.ifCond .ge 7, 3) := by decide +kernel
theorem d_M_layLimits_43 : decode b_M_layLimits 43 = .ok (.iconst 0, 1) := by decide +kernel
theorem d_M_layLimits_44 : decode b_M_layLimits 44 = .ok (.goto 15, 3) := by decide +kernel
theorem d_M_layLimits_47 : decode b_M_layLimits 47 = .ok (.iload 4, 2) := by decide +kernel
theorem d_M_layLimits_49 : decode b_M_layLimits 49 = .ok (.iload_n 2, 1) := by decide +kernel
theorem d_M_layLimits_50 : decode b_M_layLimits 50 = .ok (.if_icmp .ge 8, 3) := by decide +kernel
theorem d_M_layLimits_53 : decode b_M_layLimits 53 = .ok (.iload 4, 2) := by decide +kernel
theorem d_M_layLimits_55 : decode b_M_layLimits 55 = .ok (.goto 4, 3) := by decide +kernel
theorem d_M_layLimits_58 : decode b_M_layLimits 58 = .ok (.iload_n 2, 1) := by decide +kernel
theorem d_M_layLimits_59 : decode b_M_layLimits 59 = .ok (.iastore, 1) := by decide +kernel
theorem d_M_layLimits_60 : decode b_M_layLimits 60 = .ok (.aload_n 0, 1) := by decide +kernel
theorem d_M_layLimits_61 : decode b_M_layLimits 61 = .ok (.getfield 93, 3) := by decide +kernel
theorem d_M_layLimits_64 : decode b_M_layLimits 64 = .ok (.iload_n 3, 1) := by decide +kernel
theorem d_M_layLimits_65 : decode b_M_layLimits 65 = .ok (.iconst 0, 1) := by decide +kernel
theorem d_M_layLimits_66 : decode b_M_layLimits 66 = .ok (.iastore, 1) := by decide +kernel
theorem d_M_layLimits_67 : decode b_M_layLimits 67 = .ok (.aload_n 0, 1) := by decide +kernel
theorem d_M_layLimits_68 : decode b_M_layLimits 68 = .ok (.getfield 99, 3) := by decide +kernel
theorem d_M_layLimits_71 : decode b_M_layLimits 71 = .ok (.iload_n 3, 1) := by decide +kernel
theorem d_M_layLimits_72 : decode b_M_layLimits 72 = .ok (.aload_n 0, 1) := by decide +kernel
theorem d_M_layLimits_73 : decode b_M_layLimits 73 = .ok (.iload_n 3, 1) := by decide +kernel
theorem d_M_layLimits_74 : decode b_M_layLimits 74 = .ok (.invokevirtual 305, 3) := by decide +kernel
theorem d_M_layLimits_77 : decode b_M_layLimits 77 = .ok (.iastore, 1) := by decide +kernel
theorem d_M_layLimits_78 : decode b_M_layLimits 78 = .ok (.iinc 3 1, 3) := by decide +kernel
theorem d_M_layLimits_81 : decode b_M_layLimits 81 = .ok (.goto (-74), 3) := by decide +kernel
theorem d_M_layLimits_84 : decode b_M_layLimits 84 = .ok (.return_, 1) := by decide +kernel
set_option maxRecDepth 20000 in
theorem c_M_layLimits_b59 {r : Unit} {wz : gW} {rec7 : Nat × Int32 × Int32 × Int32 × gW → Option (Unit × gW)} (ih7 : ∀ (a0 : Nat) (a1 : Int32) (a2 : Int32) (a3 : Int32) (w : gW) (ls : Array Slot) (H : Heap) (locs : List Loc), rec7 (a0, a1, a2, a3, w) = some (r, wz) → lv_has ls 5 [(0, .ref (B + a0)), (1, .int a1), (2, .int a2), (3, .int a3)] → gRep D cA B w H → va_S (gA B) s.heap H locs → W p l e ({ frames := 5, cells := 0, slots := 0, locals := 140 } : Room) s m args below meth c H locs 0 0 (MQ below (gQv D cA B r wz) args s 0 0 (gA B)) (F0 m 7 ls [])) (C : gC p s m args meth c "RidCoppersModel" b_M_layLimits 5 none D cA oc B) (a0 : Nat) (a1 : Int32) (a2 : Int32) (a3 : Int32) (z0 : Int32) (z1 : Int32) (z2 : Nat) (w : gW) {ls : Array Slot} {H : Heap} {locs : List Loc} (hl : lv_has ls 5 [(0, .ref (B + a0)), (1, .int a1), (2, .int a2), (3, .int a3)]) (hf : f_M_layLimits_b59 N rec7 a0 a1 a2 a3 z0 z1 z2 w = some (r, wz)) (hR : gRep D cA B w H) (hS : va_S (gA B) s.heap H locs) : W p l e ({ frames := 5, cells := 0, slots := 0, locals := 140 } : Room) s m args below meth c H locs 0 0 (MQ below (gQv D cA B r wz) args s 0 0 (gA B)) (F0 m 59 ls [.int z0, .int z1, .ref (B + z2)]) := by
  obtain ⟨hx, hb, hml, hown, hts, hr, hlocks, hK, hBs⟩ := id C
  unfold f_M_layLimits_b59 at hf
  have ⟨h20, hf⟩ := gd_e hf
  have ⟨h21, hf⟩ := gd_e hf
  refine g_iast hx hb hK hR hS h20 h21 d_M_layLimits_59 (fun H locs hR hS => ?_)
  refine g_nW hf hR (fun w22 hf hR => ?_)
  refine lv_aload_n hx hb d_M_layLimits_60 rfl (lv_at hl 0 rfl) ?_
  have ⟨h23, hf⟩ := gd_e hf
  have ⟨x24, h25, hf⟩ := rr_e hf
  refine g_getR hx hb hts hown hK hR fl_M_93 (fun _ => rfl) h23 h25 d_M_layLimits_61 ?_
  refine lv_iload_n hx hb d_M_layLimits_64 rfl (lv_at hl 3 rfl) ?_
  refine lv_iconst (v := 0) hx hb d_M_layLimits_65 (by decide) ?_
  have ⟨h26, hf⟩ := gd_e hf
  have ⟨h27, hf⟩ := gd_e hf
  refine g_iast hx hb hK hR hS h26 h27 d_M_layLimits_66 (fun H locs hR hS => ?_)
  refine g_nW hf hR (fun w28 hf hR => ?_)
  refine lv_aload_n hx hb d_M_layLimits_67 rfl (lv_at hl 0 rfl) ?_
  have ⟨h29, hf⟩ := gd_e hf
  have ⟨x30, h31, hf⟩ := rr_e hf
  refine g_getR hx hb hts hown hK hR fl_M_99 (fun _ => rfl) h29 h31 d_M_layLimits_68 ?_
  refine lv_iload_n hx hb d_M_layLimits_71 rfl (lv_at hl 3 rfl) ?_
  refine lv_aload_n hx hb d_M_layLimits_72 rfl (lv_at hl 0 rfl) ?_
  refine lv_iload_n hx hb d_M_layLimits_73 rfl (lv_at hl 3 rfl) ?_
  have ⟨x32, w33, h34, hf⟩ := kl_e hf
  refine g_ki0 (g_rV (As := [.int a3]) (rest := [.int a3, .ref (B + x30)]) hx hb hml hown hts hK hR hS (c_M_heft l D cA oc B N a0 a3 w28 h34) I_M_heft m_1324 mp_51 (gRecv hK hR (ci := 12) rfl h29) rfl rfl (Nat.le_of_ble_eq_true rfl) hl.1 ⟨Nat.le_of_ble_eq_true rfl, Nat.le_of_ble_eq_true rfl⟩ ⟨Nat.le_of_ble_eq_true rfl, Nat.le_of_ble_eq_true rfl⟩ d_M_layLimits_74) hS (fun H locs hR hS => ?_)
  have ⟨h35, hf⟩ := gd_e hf
  have ⟨h36, hf⟩ := gd_e hf
  refine g_iast hx hb hK hR hS h35 h36 d_M_layLimits_77 (fun H locs hR hS => ?_)
  refine g_nW hf hR (fun w37 hf hR => ?_)
  refine g_iinc (lv' := fun x38 => [(3, .int x38), (0, .ref (B + a0)), (1, .int a1), (2, .int a2)]) hf hx hb d_M_layLimits_78 hl (k := 3) rfl (by decide) (by decide) (fun _ => rfl) (fun x38 ls hf hl => ?_)
  refine lv_goto (tgt := 7) hx hb d_M_layLimits_81 (by decide) ?_
  exact ih7 a0 a1 a2 x38 w37 _ _ _ hf (lv_sub hl [1, 2, 3, 0] rfl) hR hS
set_option maxRecDepth 20000 in
theorem c_M_layLimits_b7 {r : Unit} {wz : gW} {rec7 : Nat × Int32 × Int32 × Int32 × gW → Option (Unit × gW)} (ih7 : ∀ (a0 : Nat) (a1 : Int32) (a2 : Int32) (a3 : Int32) (w : gW) (ls : Array Slot) (H : Heap) (locs : List Loc), rec7 (a0, a1, a2, a3, w) = some (r, wz) → lv_has ls 5 [(0, .ref (B + a0)), (1, .int a1), (2, .int a2), (3, .int a3)] → gRep D cA B w H → va_S (gA B) s.heap H locs → W p l e ({ frames := 5, cells := 0, slots := 0, locals := 140 } : Room) s m args below meth c H locs 0 0 (MQ below (gQv D cA B r wz) args s 0 0 (gA B)) (F0 m 7 ls [])) (C : gC p s m args meth c "RidCoppersModel" b_M_layLimits 5 none D cA oc B) (a0 : Nat) (a1 : Int32) (a2 : Int32) (a3 : Int32) (w : gW) {ls : Array Slot} {H : Heap} {locs : List Loc} (hl : lv_has ls 5 [(0, .ref (B + a0)), (1, .int a1), (2, .int a2), (3, .int a3)]) (hf : f_M_layLimits_b7 N rec7 a0 a1 a2 a3 w = some (r, wz)) (hR : gRep D cA B w H) (hS : va_S (gA B) s.heap H locs) : W p l e ({ frames := 5, cells := 0, slots := 0, locals := 140 } : Room) s m args below meth c H locs 0 0 (MQ below (gQv D cA B r wz) args s 0 0 (gA B)) (F0 m 7 ls []) := by
  obtain ⟨hx, hb, hml, hown, hts, hr, hlocks, hK, hBs⟩ := id C
  unfold f_M_layLimits_b7 at hf
  refine lv_iload_n hx hb d_M_layLimits_7 rfl (lv_at hl 3 rfl) ?_
  refine lv_bipush (v := 6) hx hb d_M_layLimits_8 (by decide) ?_
  refine lv_icmp_ge (tgt := 84) hx hb d_M_layLimits_10 (by decide) (fun hc => ?_) (fun hc => ?_)
  · have hf := cd_t hc hf
    exact g_vret hx hb hr hlocks hR hS hf d_M_layLimits_84
  have hf := cd_f hc hf
  refine lv_aload_n hx hb d_M_layLimits_13 rfl (lv_at hl 0 rfl) ?_
  have ⟨h5, hf⟩ := gd_e hf
  have ⟨x6, h7, hf⟩ := rr_e hf
  refine g_getR hx hb hts hown hK hR fl_M_29 (fun _ => rfl) h5 h7 d_M_layLimits_14 ?_
  refine lv_bipush (v := 6) hx hb d_M_layLimits_17 (by decide) ?_
  refine lv_iload_n hx hb d_M_layLimits_19 rfl (lv_at hl 1 rfl) ?_
  refine lv_imul hx hb d_M_layLimits_20 ?_
  refine g_nI hf (fun x8 hf => ?_)
  refine lv_iload_n hx hb d_M_layLimits_21 rfl (lv_at hl 3 rfl) ?_
  refine lv_iadd hx hb d_M_layLimits_22 ?_
  refine g_nI hf (fun x9 hf => ?_)
  have ⟨h10, hf⟩ := gd_e hf
  have ⟨h11, hf⟩ := gd_e hf
  refine g_iald hx hb hK hR h10 h11 d_M_layLimits_23 ?_
  refine g_nI hf (fun x12 hf => ?_)
  refine lv_aload_n hx hb d_M_layLimits_24 rfl (lv_at hl 0 rfl) ?_
  refine lv_iload_n hx hb d_M_layLimits_25 rfl (lv_at hl 1 rfl) ?_
  refine lv_iload_n hx hb d_M_layLimits_26 rfl (lv_at hl 3 rfl) ?_
  have ⟨x13, w14, h15, hf⟩ := kl_e hf
  refine g_ki0 (g_rV (As := [.int a1, .int a3]) (rest := [.int x12]) hx hb hml hown hts hK hR hS (c_M_kept l D cA oc B N a0 a1 a3 w h15) I_M_kept m_1296 mp_44 (gRecv hK hR (ci := 12) rfl h5) rfl rfl (Nat.le_of_ble_eq_true rfl) hl.1 ⟨Nat.le_of_ble_eq_true rfl, Nat.le_of_ble_eq_true rfl⟩ ⟨Nat.le_of_ble_eq_true rfl, Nat.le_of_ble_eq_true rfl⟩ d_M_layLimits_27) hS (fun H locs hR hS => ?_)
  refine lv_isub hx hb d_M_layLimits_30 ?_
  refine g_nI hf (fun x16 hf => ?_)
  refine lv_istore (lv' := [(4, .int x16), (0, .ref (B + a0)), (1, .int a1), (2, .int a2), (3, .int a3)]) hx hb d_M_layLimits_31 hl (by decide) rfl (fun ls hl => ?_)
  refine lv_aload_n hx hb d_M_layLimits_33 rfl (lv_at hl 1 rfl) ?_
  have ⟨h17, hf⟩ := gd_e hf
  have ⟨x18, h19, hf⟩ := rr_e hf
  refine g_getR hx hb hts hown hK hR fl_M_90 (fun _ => rfl) h17 h19 d_M_layLimits_34 ?_
  refine lv_iload_n hx hb d_M_layLimits_37 rfl (lv_at hl 4 rfl) ?_
  refine lv_iload hx hb d_M_layLimits_38 (lv_at hl 0 rfl) ?_
  refine lv_if_ge (tgt := 47) hx hb d_M_layLimits_40 (by decide) (fun hc => ?_) (fun hc => ?_)
  · have hf := cd_t hc hf
    refine lv_iload hx hb d_M_layLimits_47 (lv_at hl 0 rfl) ?_
    refine lv_iload_n hx hb d_M_layLimits_49 rfl (lv_at hl 3 rfl) ?_
    refine lv_icmp_ge (tgt := 58) hx hb d_M_layLimits_50 (by decide) (fun hc => ?_) (fun hc => ?_)
    · have hf := cd_t hc hf
      refine lv_iload_n hx hb d_M_layLimits_58 rfl (lv_at hl 3 rfl) ?_
      exact c_M_layLimits_b59 ih7 C a0 a1 a2 a3 a2 a3 x18 w14 (lv_sub hl [1, 2, 3, 4] rfl) hf hR hS
    have hf := cd_f hc hf
    refine lv_iload hx hb d_M_layLimits_53 (lv_at hl 0 rfl) ?_
    refine lv_goto (tgt := 59) hx hb d_M_layLimits_55 (by decide) ?_
    exact c_M_layLimits_b59 ih7 C a0 a1 a2 a3 x16 a3 x18 w14 (lv_sub hl [1, 2, 3, 4] rfl) hf hR hS
  have hf := cd_f hc hf
  refine lv_iconst (v := 0) hx hb d_M_layLimits_43 (by decide) ?_
  refine lv_goto (tgt := 59) hx hb d_M_layLimits_44 (by decide) ?_
  exact c_M_layLimits_b59 ih7 C a0 a1 a2 a3 0 a3 x18 w14 (lv_sub hl [1, 2, 3, 4] rfl) hf hR hS
theorem c_M_layLimits_l7 {r : Unit} {wz : gW} (C : gC p s m args meth c "RidCoppersModel" b_M_layLimits 5 none D cA oc B) (a0 : Nat) (a1 : Int32) (a2 : Int32) (a3 : Int32) (w : gW) {ls : Array Slot} {H : Heap} {locs : List Loc} (hl : lv_has ls 5 [(0, .ref (B + a0)), (1, .int a1), (2, .int a2), (3, .int a3)]) (hf : f_M_layLimits_l7 N a0 a1 a2 a3 w = some (r, wz)) (hR : gRep D cA B w H) (hS : va_S (gA B) s.heap H locs) : W p l e ({ frames := 5, cells := 0, slots := 0, locals := 140 } : Room) s m args below meth c H locs 0 0 (MQ below (gQv D cA B r wz) args s 0 0 (gA B)) (F0 m 7 ls []) := by
  unfold f_M_layLimits_l7 at hf
  suffices hh : ∀ n : Nat, ∀ (a0 : Nat) (a1 : Int32) (a2 : Int32) (a3 : Int32) (w : gW) (ls : Array Slot) (H : Heap) (locs : List Loc), itr (fun rec (q : Nat × Int32 × Int32 × Int32 × gW) => f_M_layLimits_b7 N rec q.1 q.2.1 q.2.2.1 q.2.2.2.1 q.2.2.2.2) n (a0, a1, a2, a3, w) = some (r, wz) → lv_has ls 5 [(0, .ref (B + a0)), (1, .int a1), (2, .int a2), (3, .int a3)] → gRep D cA B w H → va_S (gA B) s.heap H locs → W p l e ({ frames := 5, cells := 0, slots := 0, locals := 140 } : Room) s m args below meth c H locs 0 0 (MQ below (gQv D cA B r wz) args s 0 0 (gA B)) (F0 m 7 ls []) from hh N a0 a1 a2 a3 w ls H locs hf hl hR hS
  intro n
  induction n with
  | zero => intro a0 a1 a2 a3 w ls H locs hf; cases hf
  | succ n ihn =>
    intro a0 a1 a2 a3 w ls H locs hf hl hR hS
    exact c_M_layLimits_b7 (N := N) ihn C a0 a1 a2 a3 w hl ((itr_s _ _ _).symm.trans hf) hR hS
set_option maxRecDepth 20000 in
theorem c_M_layLimits_b0 {r : Unit} {wz : gW} (C : gC p s m args meth c "RidCoppersModel" b_M_layLimits 5 none D cA oc B) (a0 : Nat) (a1 : Int32) (w : gW) {ls : Array Slot} {H : Heap} {locs : List Loc} (hl : lv_has ls 5 [(0, .ref (B + a0)), (1, .int a1)]) (hf : f_M_layLimits_b0 N a0 a1 w = some (r, wz)) (hR : gRep D cA B w H) (hS : va_S (gA B) s.heap H locs) : W p l e ({ frames := 5, cells := 0, slots := 0, locals := 140 } : Room) s m args below meth c H locs 0 0 (MQ below (gQv D cA B r wz) args s 0 0 (gA B)) (F0 m 0 ls []) := by
  obtain ⟨hx, hb, hml, hown, hts, hr, hlocks, hK, hBs⟩ := id C
  unfold f_M_layLimits_b0 at hf
  refine lv_aload_n hx hb d_M_layLimits_0 rfl (lv_at hl 0 rfl) ?_
  have ⟨h4, hf⟩ := gd_e hf
  have ⟨x1, w2, h3, hf⟩ := kl_e hf
  refine g_ki0 (g_rV (As := []) (rest := []) hx hb hml hown hts hK hR hS (c_M_mostNow l D cA oc B N a0 w h3) I_M_mostNow m_1336 mp_53 (gRecv hK hR (ci := 12) rfl h4) rfl rfl (Nat.le_of_ble_eq_true rfl) hl.1 ⟨Nat.le_of_ble_eq_true rfl, Nat.le_of_ble_eq_true rfl⟩ ⟨Nat.le_of_ble_eq_true rfl, Nat.le_of_ble_eq_true rfl⟩ d_M_layLimits_1) hS (fun H locs hR hS => ?_)
  refine lv_istore_n (lv' := [(2, .int x1), (0, .ref (B + a0)), (1, .int a1)]) hx hb d_M_layLimits_4 rfl hl (by decide) rfl (fun ls hl => ?_)
  refine lv_iconst (v := 0) hx hb d_M_layLimits_5 (by decide) ?_
  refine lv_istore_n (lv' := [(3, .int 0), (2, .int x1), (0, .ref (B + a0)), (1, .int a1)]) hx hb d_M_layLimits_6 rfl hl (by decide) rfl (fun ls hl => ?_)
  exact c_M_layLimits_l7 C a0 a1 x1 0 w2 (lv_sub hl [2, 3, 1, 0] rfl) hf hR hS
theorem c_M_layLimits (l : Launch) (D : va_G) (cA : Nat → ClassId) (oc : gO) (B N : Nat) (a0 : Nat) (a1 : Int32) (w : gW) {wz : gW} {r : Unit} (hf : f_M_layLimits N a0 a1 w = some (r, wz)) : Met l y_M_layLimits (Cond.code y_M_layLimits b_M_layLimits 5 none :: lw_good) ({ frames := 5, cells := 0, slots := 0, locals := 140 } : Room) (gPre D cA oc B [.ref (B + a0), .int a1] w) (gQv D cA B r wz) 0 0 (gA B) := by
  refine Met.ofW (cc := b_M_layLimits) (maxL := 5) (ret := none) (by decide +kernel) rfl ?_
  intro p e s m args below meth c s₁ Bd hml hv
  obtain ⟨hargs, C, hR⟩ := gC.enter (l := l) rfl Bd hml hv
  subst hargs
  have hl := lv_entry ([.ref (B + a0), .int a1]) (n := 5) (Nat.le_of_ble_eq_true rfl)
  rw [lg_entry_eq]
  generalize (lg_sl ([.ref (B + a0), .int a1]) ++ List.replicate (5 - (lg_sl ([.ref (B + a0), .int a1])).length) Slot.unset).toArray = ls at hl ⊢
  have hl : lv_has ls 5 [(0, .ref (B + a0)), (1, .int a1)] := hl
  exact c_M_layLimits_b0 C a0 a1 w (lv_sub hl [0, 1] rfl) hf hR va_S.rf
theorem d_M_nextHand_0 : decode b_M_nextHand 0 = .ok (.iconst 5, 1) := by decide +kernel
theorem d_M_nextHand_1 : decode b_M_nextHand 1 = .ok (.istore_n 1, 1) := by decide +kernel
theorem d_M_nextHand_2 : decode b_M_nextHand 2 = .ok (.iload_n 1, 1) := by decide +kernel
theorem d_M_nextHand_3 : decode b_M_nextHand 3 = .ok (.ifCond .lt 43, 3) := by decide +kernel
theorem d_M_nextHand_6 : decode b_M_nextHand 6 = .ok (.aload_n 0, 1) := by decide +kernel
theorem d_M_nextHand_7 : decode b_M_nextHand 7 = .ok (.getfield 93, 3) := by decide +kernel
theorem d_M_nextHand_10 : decode b_M_nextHand 10 = .ok (.iload_n 1, 1) := by decide +kernel
theorem d_M_nextHand_11 : decode b_M_nextHand 11 = .ok (.dup2, 1) := by decide +kernel
theorem d_M_nextHand_12 : decode b_M_nextHand 12 = .ok (.iaload, 1) := by decide +kernel
theorem d_M_nextHand_13 : decode b_M_nextHand 13 = .ok (.iconst 1, 1) := by decide +kernel
theorem d_M_nextHand_14 : decode b_M_nextHand 14 = .ok (.iadd, 1) := by decide +kernel
theorem d_M_nextHand_15 : decode b_M_nextHand 15 = .ok (.iastore, 1) := by decide +kernel
theorem d_M_nextHand_16 : decode b_M_nextHand 16 = .ok (.aload_n 0, 1) := by decide +kernel
theorem d_M_nextHand_17 : decode b_M_nextHand 17 = .ok (.getfield 93, 3) := by decide +kernel
theorem d_M_nextHand_20 : decode b_M_nextHand 20 = .ok (.iload_n 1, 1) := by decide +kernel
theorem d_M_nextHand_21 : decode b_M_nextHand 21 = .ok (.iaload, 1) := by decide +kernel
theorem d_M_nextHand_22 : decode b_M_nextHand 22 = .ok (.aload_n 0, 1) := by decide +kernel
theorem d_M_nextHand_23 : decode b_M_nextHand 23 = .ok (.getfield 90, 3) := by decide +kernel
theorem d_M_nextHand_26 : decode b_M_nextHand 26 = .ok (.iload_n 1, 1) := by decide +kernel
theorem d_M_nextHand_27 : decode b_M_nextHand 27 = .ok (.iaload, 1) := by decide +kernel
theorem d_M_nextHand_28 : decode b_M_nextHand 28 = .ok (.if_icmp .gt 5, 3) := by decide +kernel
theorem d_M_nextHand_31 : decode b_M_nextHand 31 = .ok (.iconst 1, 1) := by decide +kernel
theorem d_M_nextHand_32 : decode b_M_nextHand 32 = .ok (.ireturn, 1) := by decide +kernel
theorem d_M_nextHand_33 : decode b_M_nextHand 33 = .ok (.aload_n 0, 1) := by decide +kernel
theorem d_M_nextHand_34 : decode b_M_nextHand 34 = .ok (.getfield 93, 3) := by decide +kernel
theorem d_M_nextHand_37 : decode b_M_nextHand 37 = .ok (.iload_n 1, 1) := by decide +kernel
theorem d_M_nextHand_38 : decode b_M_nextHand 38 = .ok (.iconst 0, 1) := by decide +kernel
theorem d_M_nextHand_39 : decode b_M_nextHand 39 = .ok (.iastore, 1) := by decide +kernel
theorem d_M_nextHand_40 : decode b_M_nextHand 40 = .ok (.iinc 1 (-1), 3) := by decide +kernel
theorem d_M_nextHand_43 : decode b_M_nextHand 43 = .ok (.goto (-41), 3) := by decide +kernel
theorem d_M_nextHand_46 : decode b_M_nextHand 46 = .ok (.iconst 0, 1) := by decide +kernel
theorem d_M_nextHand_47 : decode b_M_nextHand 47 = .ok (.ireturn, 1) := by decide +kernel
set_option maxRecDepth 20000 in
theorem c_M_nextHand_b2 {r : Int32} {wz : gW} {rec2 : Nat × Int32 × gW → Option (Int32 × gW)} (ih2 : ∀ (a0 : Nat) (a1 : Int32) (w : gW) (ls : Array Slot) (H : Heap) (locs : List Loc), rec2 (a0, a1, w) = some (r, wz) → lv_has ls 2 [(0, .ref (B + a0)), (1, .int a1)] → gRep D cA B w H → va_S (gA B) s.heap H locs → W p l e ({ frames := 1, cells := 0, slots := 0, locals := 40 } : Room) s m args below meth c H locs 0 0 (MQ below (gQi D cA B r wz) args s 0 0 (gA B)) (F0 m 2 ls [])) (C : gC p s m args meth c "RidCoppersModel" b_M_nextHand 2 (some .boolean) D cA oc B) (a0 : Nat) (a1 : Int32) (w : gW) {ls : Array Slot} {H : Heap} {locs : List Loc} (hl : lv_has ls 2 [(0, .ref (B + a0)), (1, .int a1)]) (hf : f_M_nextHand_b2 N rec2 a0 a1 w = some (r, wz)) (hR : gRep D cA B w H) (hS : va_S (gA B) s.heap H locs) : W p l e ({ frames := 1, cells := 0, slots := 0, locals := 40 } : Room) s m args below meth c H locs 0 0 (MQ below (gQi D cA B r wz) args s 0 0 (gA B)) (F0 m 2 ls []) := by
  obtain ⟨hx, hb, hml, hown, hts, hr, hlocks, hK, hBs⟩ := id C
  unfold f_M_nextHand_b2 at hf
  refine lv_iload_n hx hb d_M_nextHand_2 rfl (lv_at hl 1 rfl) ?_
  refine lv_if_lt (tgt := 46) hx hb d_M_nextHand_3 (by decide) (fun hc => ?_) (fun hc => ?_)
  · have hf := cd_t hc hf
    refine lv_iconst (v := 0) hx hb d_M_nextHand_46 (by decide) ?_
    exact g_iret hx hb hr hlocks hR hS hf rfl d_M_nextHand_47
  have hf := cd_f hc hf
  refine lv_aload_n hx hb d_M_nextHand_6 rfl (lv_at hl 0 rfl) ?_
  have ⟨h1, hf⟩ := gd_e hf
  have ⟨x2, h3, hf⟩ := rr_e hf
  refine g_getR hx hb hts hown hK hR fl_M_93 (fun _ => rfl) h1 h3 d_M_nextHand_7 ?_
  refine lv_iload_n hx hb d_M_nextHand_10 rfl (lv_at hl 1 rfl) ?_
  refine lv_dup2_11 hx hb d_M_nextHand_11 rfl rfl ?_
  have ⟨h4, hf⟩ := gd_e hf
  have ⟨h5, hf⟩ := gd_e hf
  refine g_iald hx hb hK hR h4 h5 d_M_nextHand_12 ?_
  refine g_nI hf (fun x6 hf => ?_)
  refine lv_iconst (v := 1) hx hb d_M_nextHand_13 (by decide) ?_
  refine lv_iadd hx hb d_M_nextHand_14 ?_
  refine g_nI hf (fun x7 hf => ?_)
  refine g_iast hx hb hK hR hS h4 h5 d_M_nextHand_15 (fun H locs hR hS => ?_)
  refine g_nW hf hR (fun w8 hf hR => ?_)
  refine lv_aload_n hx hb d_M_nextHand_16 rfl (lv_at hl 0 rfl) ?_
  have ⟨h9, hf⟩ := gd_e hf
  have ⟨x10, h11, hf⟩ := rr_e hf
  refine g_getR hx hb hts hown hK hR fl_M_93 (fun _ => rfl) h9 h11 d_M_nextHand_17 ?_
  refine lv_iload_n hx hb d_M_nextHand_20 rfl (lv_at hl 1 rfl) ?_
  have ⟨h12, hf⟩ := gd_e hf
  have ⟨h13, hf⟩ := gd_e hf
  refine g_iald hx hb hK hR h12 h13 d_M_nextHand_21 ?_
  refine g_nI hf (fun x14 hf => ?_)
  refine lv_aload_n hx hb d_M_nextHand_22 rfl (lv_at hl 0 rfl) ?_
  have ⟨x15, h16, hf⟩ := rr_e hf
  refine g_getR hx hb hts hown hK hR fl_M_90 (fun _ => rfl) h9 h16 d_M_nextHand_23 ?_
  refine lv_iload_n hx hb d_M_nextHand_26 rfl (lv_at hl 1 rfl) ?_
  have ⟨h17, hf⟩ := gd_e hf
  have ⟨h18, hf⟩ := gd_e hf
  refine g_iald hx hb hK hR h17 h18 d_M_nextHand_27 ?_
  refine g_nI hf (fun x19 hf => ?_)
  refine lv_icmp_gt (tgt := 33) hx hb d_M_nextHand_28 (by decide) (fun hc => ?_) (fun hc => ?_)
  · have hf := cd_t hc hf
    refine lv_aload_n hx hb d_M_nextHand_33 rfl (lv_at hl 0 rfl) ?_
    refine g_getR hx hb hts hown hK hR fl_M_93 (fun _ => rfl) h9 h11 d_M_nextHand_34 ?_
    refine lv_iload_n hx hb d_M_nextHand_37 rfl (lv_at hl 1 rfl) ?_
    refine lv_iconst (v := 0) hx hb d_M_nextHand_38 (by decide) ?_
    refine g_iast hx hb hK hR hS h12 h13 d_M_nextHand_39 (fun H locs hR hS => ?_)
    refine g_nW hf hR (fun w20 hf hR => ?_)
    refine g_iinc (lv' := fun x21 => [(1, .int x21), (0, .ref (B + a0))]) hf hx hb d_M_nextHand_40 hl (k := 1) rfl (by decide) (by decide) (fun _ => rfl) (fun x21 ls hf hl => ?_)
    refine lv_goto (tgt := 2) hx hb d_M_nextHand_43 (by decide) ?_
    exact ih2 a0 x21 w20 _ _ _ hf (lv_sub hl [1, 0] rfl) hR hS
  have hf := cd_f hc hf
  refine lv_iconst (v := 1) hx hb d_M_nextHand_31 (by decide) ?_
  exact g_iret hx hb hr hlocks hR hS hf rfl d_M_nextHand_32
theorem c_M_nextHand_l2 {r : Int32} {wz : gW} (C : gC p s m args meth c "RidCoppersModel" b_M_nextHand 2 (some .boolean) D cA oc B) (a0 : Nat) (a1 : Int32) (w : gW) {ls : Array Slot} {H : Heap} {locs : List Loc} (hl : lv_has ls 2 [(0, .ref (B + a0)), (1, .int a1)]) (hf : f_M_nextHand_l2 N a0 a1 w = some (r, wz)) (hR : gRep D cA B w H) (hS : va_S (gA B) s.heap H locs) : W p l e ({ frames := 1, cells := 0, slots := 0, locals := 40 } : Room) s m args below meth c H locs 0 0 (MQ below (gQi D cA B r wz) args s 0 0 (gA B)) (F0 m 2 ls []) := by
  unfold f_M_nextHand_l2 at hf
  suffices hh : ∀ n : Nat, ∀ (a0 : Nat) (a1 : Int32) (w : gW) (ls : Array Slot) (H : Heap) (locs : List Loc), itr (fun rec (q : Nat × Int32 × gW) => f_M_nextHand_b2 N rec q.1 q.2.1 q.2.2) n (a0, a1, w) = some (r, wz) → lv_has ls 2 [(0, .ref (B + a0)), (1, .int a1)] → gRep D cA B w H → va_S (gA B) s.heap H locs → W p l e ({ frames := 1, cells := 0, slots := 0, locals := 40 } : Room) s m args below meth c H locs 0 0 (MQ below (gQi D cA B r wz) args s 0 0 (gA B)) (F0 m 2 ls []) from hh N a0 a1 w ls H locs hf hl hR hS
  intro n
  induction n with
  | zero => intro a0 a1 w ls H locs hf; cases hf
  | succ n ihn =>
    intro a0 a1 w ls H locs hf hl hR hS
    exact c_M_nextHand_b2 (N := N) ihn C a0 a1 w hl ((itr_s _ _ _).symm.trans hf) hR hS
set_option maxRecDepth 20000 in
theorem c_M_nextHand_b0 {r : Int32} {wz : gW} (C : gC p s m args meth c "RidCoppersModel" b_M_nextHand 2 (some .boolean) D cA oc B) (a0 : Nat) (w : gW) {ls : Array Slot} {H : Heap} {locs : List Loc} (hl : lv_has ls 2 [(0, .ref (B + a0))]) (hf : f_M_nextHand_b0 N a0 w = some (r, wz)) (hR : gRep D cA B w H) (hS : va_S (gA B) s.heap H locs) : W p l e ({ frames := 1, cells := 0, slots := 0, locals := 40 } : Room) s m args below meth c H locs 0 0 (MQ below (gQi D cA B r wz) args s 0 0 (gA B)) (F0 m 0 ls []) := by
  obtain ⟨hx, hb, hml, hown, hts, hr, hlocks, hK, hBs⟩ := id C
  unfold f_M_nextHand_b0 at hf
  refine lv_iconst (v := 5) hx hb d_M_nextHand_0 (by decide) ?_
  refine lv_istore_n (lv' := [(1, .int 5), (0, .ref (B + a0))]) hx hb d_M_nextHand_1 rfl hl (by decide) rfl (fun ls hl => ?_)
  exact c_M_nextHand_l2 C a0 5 w (lv_sub hl [1, 0] rfl) hf hR hS
theorem c_M_nextHand (l : Launch) (D : va_G) (cA : Nat → ClassId) (oc : gO) (B N : Nat) (a0 : Nat) (w : gW) {wz : gW} {r : Int32} (hf : f_M_nextHand N a0 w = some (r, wz)) : Met l y_M_nextHand (Cond.code y_M_nextHand b_M_nextHand 2 (some .boolean) :: lw_good) ({ frames := 1, cells := 0, slots := 0, locals := 40 } : Room) (gPre D cA oc B [.ref (B + a0)] w) (gQi D cA B r wz) 0 0 (gA B) := by
  refine Met.ofW (cc := b_M_nextHand) (maxL := 2) (ret := (some .boolean)) (by decide +kernel) rfl ?_
  intro p e s m args below meth c s₁ Bd hml hv
  obtain ⟨hargs, C, hR⟩ := gC.enter (l := l) rfl Bd hml hv
  subst hargs
  have hl := lv_entry ([.ref (B + a0)]) (n := 2) (Nat.le_of_ble_eq_true rfl)
  rw [lg_entry_eq]
  generalize (lg_sl ([.ref (B + a0)]) ++ List.replicate (2 - (lg_sl ([.ref (B + a0)])).length) Slot.unset).toArray = ls at hl ⊢
  have hl : lv_has ls 2 [(0, .ref (B + a0))] := hl
  exact c_M_nextHand_b0 C a0 w (lv_sub hl [0] rfl) hf hR va_S.rf
theorem d_M_laySum_0 : decode b_M_laySum 0 = .ok (.aload_n 0, 1) := by decide +kernel
theorem d_M_laySum_1 : decode b_M_laySum 1 = .ok (.iconst 0, 1) := by decide +kernel
theorem d_M_laySum_2 : decode b_M_laySum 2 = .ok (.putfield 108, 3) := by decide +kernel
theorem d_M_laySum_5 : decode b_M_laySum 5 = .ok (.aload_n 0, 1) := by decide +kernel
theorem d_M_laySum_6 : decode b_M_laySum 6 = .ok (.iconst 0, 1) := by decide +kernel
theorem d_M_laySum_7 : decode b_M_laySum 7 = .ok (.putfield 111, 3) := by decide +kernel
theorem d_M_laySum_10 : decode b_M_laySum 10 = .ok (.iconst 0, 1) := by decide +kernel
theorem d_M_laySum_11 : decode b_M_laySum 11 = .ok (.istore_n 1, 1) := by decide +kernel
theorem d_M_laySum_12 : decode b_M_laySum 12 = .ok (.iload_n 1, 1) := by decide +kernel
theorem d_M_laySum_13 : decode b_M_laySum 13 = .ok (.bipush 6, 2) := by decide +kernel
theorem d_M_laySum_15 : decode b_M_laySum 15 = .ok (.if_icmp .ge 46, 3) := by decide +kernel
theorem d_M_laySum_18 : decode b_M_laySum 18 = .ok (.aload_n 0, 1) := by decide +kernel
theorem d_M_laySum_19 : decode b_M_laySum 19 = .ok (.dup, 1) := by decide +kernel
theorem d_M_laySum_20 : decode b_M_laySum 20 = .ok (.getfield 108, 3) := by decide +kernel
theorem d_M_laySum_23 : decode b_M_laySum 23 = .ok (.aload_n 0, 1) := by decide +kernel
theorem d_M_laySum_24 : decode b_M_laySum 24 = .ok (.getfield 93, 3) := by decide +kernel
theorem d_M_laySum_27 : decode b_M_laySum 27 = .ok (.iload_n 1, 1) := by decide +kernel
theorem d_M_laySum_28 : decode b_M_laySum 28 = .ok (.iaload, 1) := by decide +kernel
theorem d_M_laySum_29 : decode b_M_laySum 29 = .ok (.aload_n 0, 1) := by decide +kernel
theorem d_M_laySum_30 : decode b_M_laySum 30 = .ok (.getfield 13, 3) := by decide +kernel
theorem d_M_laySum_33 : decode b_M_laySum 33 = .ok (.iload_n 1, 1) := by decide +kernel
theorem d_M_laySum_34 : decode b_M_laySum 34 = .ok (.iaload, 1) := by decide +kernel
theorem d_M_laySum_35 : decode b_M_laySum 35 = .ok (.imul, 1) := by decide +kernel
theorem d_M_laySum_36 : decode b_M_laySum 36 = .ok (.iadd, 1) := by decide +kernel
theorem d_M_laySum_37 : decode b_M_laySum 37 = .ok (.putfield 108, 3) := by decide +kernel
theorem d_M_laySum_40 : decode b_M_laySum 40 = .ok (.aload_n 0, 1) := by decide +kernel
theorem d_M_laySum_41 : decode b_M_laySum 41 = .ok (.dup, 1) := by decide +kernel
theorem d_M_laySum_42 : decode b_M_laySum 42 = .ok (.getfield 111, 3) := by decide +kernel
theorem d_M_laySum_45 : decode b_M_laySum 45 = .ok (.aload_n 0, 1) := by decide +kernel
theorem d_M_laySum_46 : decode b_M_laySum 46 = .ok (.getfield 93, 3) := by decide +kernel
theorem d_M_laySum_49 : decode b_M_laySum 49 = .ok (.iload_n 1, 1) := by decide +kernel
theorem d_M_laySum_50 : decode b_M_laySum 50 = .ok (.iaload, 1) := by decide +kernel
theorem d_M_laySum_51 : decode b_M_laySum 51 = .ok (.iadd, 1) := by decide +kernel
theorem d_M_laySum_52 : decode b_M_laySum 52 = .ok (.putfield 111, 3) := by decide +kernel
theorem d_M_laySum_55 : decode b_M_laySum 55 = .ok (.iinc 1 1, 3) := by decide +kernel
theorem d_M_laySum_58 : decode b_M_laySum 58 = .ok (.goto (-46), 3) := by decide +kernel
theorem d_M_laySum_61 : decode b_M_laySum 61 = .ok (.return_, 1) := by decide +kernel
set_option maxRecDepth 20000 in
theorem c_M_laySum_b12 {r : Unit} {wz : gW} {rec12 : Nat × Int32 × gW → Option (Unit × gW)} (ih12 : ∀ (a0 : Nat) (a1 : Int32) (w : gW) (ls : Array Slot) (H : Heap) (locs : List Loc), rec12 (a0, a1, w) = some (r, wz) → lv_has ls 2 [(0, .ref (B + a0)), (1, .int a1)] → gRep D cA B w H → va_S (gA B) s.heap H locs → W p l e ({ frames := 1, cells := 0, slots := 0, locals := 40 } : Room) s m args below meth c H locs 0 0 (MQ below (gQv D cA B r wz) args s 0 0 (gA B)) (F0 m 12 ls [])) (C : gC p s m args meth c "RidCoppersModel" b_M_laySum 2 none D cA oc B) (a0 : Nat) (a1 : Int32) (w : gW) {ls : Array Slot} {H : Heap} {locs : List Loc} (hl : lv_has ls 2 [(0, .ref (B + a0)), (1, .int a1)]) (hf : f_M_laySum_b12 N rec12 a0 a1 w = some (r, wz)) (hR : gRep D cA B w H) (hS : va_S (gA B) s.heap H locs) : W p l e ({ frames := 1, cells := 0, slots := 0, locals := 40 } : Room) s m args below meth c H locs 0 0 (MQ below (gQv D cA B r wz) args s 0 0 (gA B)) (F0 m 12 ls []) := by
  obtain ⟨hx, hb, hml, hown, hts, hr, hlocks, hK, hBs⟩ := id C
  unfold f_M_laySum_b12 at hf
  refine lv_iload_n hx hb d_M_laySum_12 rfl (lv_at hl 1 rfl) ?_
  refine lv_bipush (v := 6) hx hb d_M_laySum_13 (by decide) ?_
  refine lv_icmp_ge (tgt := 61) hx hb d_M_laySum_15 (by decide) (fun hc => ?_) (fun hc => ?_)
  · have hf := cd_t hc hf
    exact g_vret hx hb hr hlocks hR hS hf d_M_laySum_61
  have hf := cd_f hc hf
  refine lv_aload_n hx hb d_M_laySum_18 rfl (lv_at hl 0 rfl) ?_
  refine lv_dup hx hb d_M_laySum_19 rfl ?_
  have ⟨h5, hf⟩ := gd_e hf
  refine g_getI hx hb hts hown hK hR fl_M_108 (fun _ => rfl) h5 d_M_laySum_20 ?_
  refine g_nI hf (fun x6 hf => ?_)
  refine lv_aload_n hx hb d_M_laySum_23 rfl (lv_at hl 0 rfl) ?_
  have ⟨x7, h8, hf⟩ := rr_e hf
  refine g_getR hx hb hts hown hK hR fl_M_93 (fun _ => rfl) h5 h8 d_M_laySum_24 ?_
  refine lv_iload_n hx hb d_M_laySum_27 rfl (lv_at hl 1 rfl) ?_
  have ⟨h9, hf⟩ := gd_e hf
  have ⟨h10, hf⟩ := gd_e hf
  refine g_iald hx hb hK hR h9 h10 d_M_laySum_28 ?_
  refine g_nI hf (fun x11 hf => ?_)
  refine lv_aload_n hx hb d_M_laySum_29 rfl (lv_at hl 0 rfl) ?_
  have ⟨x12, h13, hf⟩ := rr_e hf
  refine g_getR hx hb hts hown hK hR fl_M_13 (fun _ => rfl) h5 h13 d_M_laySum_30 ?_
  refine lv_iload_n hx hb d_M_laySum_33 rfl (lv_at hl 1 rfl) ?_
  have ⟨h14, hf⟩ := gd_e hf
  have ⟨h15, hf⟩ := gd_e hf
  refine g_iald hx hb hK hR h14 h15 d_M_laySum_34 ?_
  refine g_nI hf (fun x16 hf => ?_)
  refine lv_imul hx hb d_M_laySum_35 ?_
  refine g_nI hf (fun x17 hf => ?_)
  refine lv_iadd hx hb d_M_laySum_36 ?_
  refine g_nI hf (fun x18 hf => ?_)
  refine g_putI hx hb hts hown hK hR hS pf_M_108 (fun _ => rfl) rfl rfl h5 d_M_laySum_37 (fun H locs hR hS => ?_)
  refine g_nW hf hR (fun w19 hf hR => ?_)
  refine lv_aload_n hx hb d_M_laySum_40 rfl (lv_at hl 0 rfl) ?_
  refine lv_dup hx hb d_M_laySum_41 rfl ?_
  have ⟨h20, hf⟩ := gd_e hf
  refine g_getI hx hb hts hown hK hR fl_M_111 (fun _ => rfl) h20 d_M_laySum_42 ?_
  refine g_nI hf (fun x21 hf => ?_)
  refine lv_aload_n hx hb d_M_laySum_45 rfl (lv_at hl 0 rfl) ?_
  have ⟨x22, h23, hf⟩ := rr_e hf
  refine g_getR hx hb hts hown hK hR fl_M_93 (fun _ => rfl) h20 h23 d_M_laySum_46 ?_
  refine lv_iload_n hx hb d_M_laySum_49 rfl (lv_at hl 1 rfl) ?_
  have ⟨h24, hf⟩ := gd_e hf
  have ⟨h25, hf⟩ := gd_e hf
  refine g_iald hx hb hK hR h24 h25 d_M_laySum_50 ?_
  refine g_nI hf (fun x26 hf => ?_)
  refine lv_iadd hx hb d_M_laySum_51 ?_
  refine g_nI hf (fun x27 hf => ?_)
  refine g_putI hx hb hts hown hK hR hS pf_M_111 (fun _ => rfl) rfl rfl h20 d_M_laySum_52 (fun H locs hR hS => ?_)
  refine g_nW hf hR (fun w28 hf hR => ?_)
  refine g_iinc (lv' := fun x29 => [(1, .int x29), (0, .ref (B + a0))]) hf hx hb d_M_laySum_55 hl (k := 1) rfl (by decide) (by decide) (fun _ => rfl) (fun x29 ls hf hl => ?_)
  refine lv_goto (tgt := 12) hx hb d_M_laySum_58 (by decide) ?_
  exact ih12 a0 x29 w28 _ _ _ hf (lv_sub hl [1, 0] rfl) hR hS
theorem c_M_laySum_l12 {r : Unit} {wz : gW} (C : gC p s m args meth c "RidCoppersModel" b_M_laySum 2 none D cA oc B) (a0 : Nat) (a1 : Int32) (w : gW) {ls : Array Slot} {H : Heap} {locs : List Loc} (hl : lv_has ls 2 [(0, .ref (B + a0)), (1, .int a1)]) (hf : f_M_laySum_l12 N a0 a1 w = some (r, wz)) (hR : gRep D cA B w H) (hS : va_S (gA B) s.heap H locs) : W p l e ({ frames := 1, cells := 0, slots := 0, locals := 40 } : Room) s m args below meth c H locs 0 0 (MQ below (gQv D cA B r wz) args s 0 0 (gA B)) (F0 m 12 ls []) := by
  unfold f_M_laySum_l12 at hf
  suffices hh : ∀ n : Nat, ∀ (a0 : Nat) (a1 : Int32) (w : gW) (ls : Array Slot) (H : Heap) (locs : List Loc), itr (fun rec (q : Nat × Int32 × gW) => f_M_laySum_b12 N rec q.1 q.2.1 q.2.2) n (a0, a1, w) = some (r, wz) → lv_has ls 2 [(0, .ref (B + a0)), (1, .int a1)] → gRep D cA B w H → va_S (gA B) s.heap H locs → W p l e ({ frames := 1, cells := 0, slots := 0, locals := 40 } : Room) s m args below meth c H locs 0 0 (MQ below (gQv D cA B r wz) args s 0 0 (gA B)) (F0 m 12 ls []) from hh N a0 a1 w ls H locs hf hl hR hS
  intro n
  induction n with
  | zero => intro a0 a1 w ls H locs hf; cases hf
  | succ n ihn =>
    intro a0 a1 w ls H locs hf hl hR hS
    exact c_M_laySum_b12 (N := N) ihn C a0 a1 w hl ((itr_s _ _ _).symm.trans hf) hR hS
set_option maxRecDepth 20000 in
theorem c_M_laySum_b0 {r : Unit} {wz : gW} (C : gC p s m args meth c "RidCoppersModel" b_M_laySum 2 none D cA oc B) (a0 : Nat) (w : gW) {ls : Array Slot} {H : Heap} {locs : List Loc} (hl : lv_has ls 2 [(0, .ref (B + a0))]) (hf : f_M_laySum_b0 N a0 w = some (r, wz)) (hR : gRep D cA B w H) (hS : va_S (gA B) s.heap H locs) : W p l e ({ frames := 1, cells := 0, slots := 0, locals := 40 } : Room) s m args below meth c H locs 0 0 (MQ below (gQv D cA B r wz) args s 0 0 (gA B)) (F0 m 0 ls []) := by
  obtain ⟨hx, hb, hml, hown, hts, hr, hlocks, hK, hBs⟩ := id C
  unfold f_M_laySum_b0 at hf
  refine lv_aload_n hx hb d_M_laySum_0 rfl (lv_at hl 0 rfl) ?_
  refine lv_iconst (v := 0) hx hb d_M_laySum_1 (by decide) ?_
  have ⟨h1, hf⟩ := gd_e hf
  refine g_putI hx hb hts hown hK hR hS pf_M_108 (fun _ => rfl) rfl rfl h1 d_M_laySum_2 (fun H locs hR hS => ?_)
  refine g_nW hf hR (fun w2 hf hR => ?_)
  refine lv_aload_n hx hb d_M_laySum_5 rfl (lv_at hl 0 rfl) ?_
  refine lv_iconst (v := 0) hx hb d_M_laySum_6 (by decide) ?_
  have ⟨h3, hf⟩ := gd_e hf
  refine g_putI hx hb hts hown hK hR hS pf_M_111 (fun _ => rfl) rfl rfl h3 d_M_laySum_7 (fun H locs hR hS => ?_)
  refine g_nW hf hR (fun w4 hf hR => ?_)
  refine lv_iconst (v := 0) hx hb d_M_laySum_10 (by decide) ?_
  refine lv_istore_n (lv' := [(1, .int 0), (0, .ref (B + a0))]) hx hb d_M_laySum_11 rfl hl (by decide) rfl (fun ls hl => ?_)
  exact c_M_laySum_l12 C a0 0 w4 (lv_sub hl [1, 0] rfl) hf hR hS
theorem c_M_laySum (l : Launch) (D : va_G) (cA : Nat → ClassId) (oc : gO) (B N : Nat) (a0 : Nat) (w : gW) {wz : gW} {r : Unit} (hf : f_M_laySum N a0 w = some (r, wz)) : Met l y_M_laySum (Cond.code y_M_laySum b_M_laySum 2 none :: lw_good) ({ frames := 1, cells := 0, slots := 0, locals := 40 } : Room) (gPre D cA oc B [.ref (B + a0)] w) (gQv D cA B r wz) 0 0 (gA B) := by
  refine Met.ofW (cc := b_M_laySum) (maxL := 2) (ret := none) (by decide +kernel) rfl ?_
  intro p e s m args below meth c s₁ Bd hml hv
  obtain ⟨hargs, C, hR⟩ := gC.enter (l := l) rfl Bd hml hv
  subst hargs
  have hl := lv_entry ([.ref (B + a0)]) (n := 2) (Nat.le_of_ble_eq_true rfl)
  rw [lg_entry_eq]
  generalize (lg_sl ([.ref (B + a0)]) ++ List.replicate (2 - (lg_sl ([.ref (B + a0)])).length) Slot.unset).toArray = ls at hl ⊢
  have hl : lv_has ls 2 [(0, .ref (B + a0))] := hl
  exact c_M_laySum_b0 C a0 w (lv_sub hl [0] rfl) hf hR va_S.rf
theorem d_M_pays_0 : decode b_M_pays 0 = .ok (.aload_n 0, 1) := by decide +kernel
theorem d_M_pays_1 : decode b_M_pays 1 = .ok (.invokevirtual 321, 3) := by decide +kernel
theorem d_M_pays_4 : decode b_M_pays 4 = .ok (.aload_n 0, 1) := by decide +kernel
theorem d_M_pays_5 : decode b_M_pays 5 = .ok (.getfield 108, 3) := by decide +kernel
theorem d_M_pays_8 : decode b_M_pays 8 = .ok (.iload_n 2, 1) := by decide +kernel
theorem d_M_pays_9 : decode b_M_pays 9 = .ok (.isub, 1) := by decide +kernel
theorem d_M_pays_10 : decode b_M_pays 10 = .ok (.istore_n 3, 1) := by decide +kernel
theorem d_M_pays_11 : decode b_M_pays 11 = .ok (.iload_n 3, 1) := by decide +kernel
theorem d_M_pays_12 : decode b_M_pays 12 = .ok (.ifCond .ge 5, 3) := by decide +kernel
theorem d_M_pays_15 : decode b_M_pays 15 = .ok (.iconst 0, 1) := by decide +kernel
theorem d_M_pays_16 : decode b_M_pays 16 = .ok (.ireturn, 1) := by decide +kernel
theorem d_M_pays_17 : decode b_M_pays 17 = .ok (.iconst 5, 1) := by decide +kernel
theorem d_M_pays_18 : decode b_M_pays 18 = .ok (.istore 4, 2) := by decide +kernel
theorem d_M_pays_20 : decode b_M_pays 20 = .ok (.iload 4, 2) := by decide +kernel
theorem d_M_pays_22 : decode b_M_pays 22 = .ok (.ifCond .lt 126, 3) := by decide +kernel
theorem d_M_pays_25 : decode b_M_pays 25 = .ok (.iload_n 3, 1) := by decide +kernel
theorem d_M_pays_26 : decode b_M_pays 26 = .ok (.aload_n 0, 1) := by decide +kernel
theorem d_M_pays_27 : decode b_M_pays 27 = .ok (.getfield 13, 3) := by decide +kernel
theorem d_M_pays_30 : decode b_M_pays 30 = .ok (.iload 4, 2) := by decide +kernel
theorem d_M_pays_32 : decode b_M_pays 32 = .ok (.iaload, 1) := by decide +kernel
theorem d_M_pays_33 : decode b_M_pays 33 = .ok (.idiv, 1) := by decide +kernel
theorem d_M_pays_34 : decode b_M_pays 34 = .ok (.istore 5, 2) := by decide +kernel
theorem d_M_pays_36 : decode b_M_pays 36 = .ok (.aload_n 0, 1) := by decide +kernel
theorem d_M_pays_37 : decode b_M_pays 37 = .ok (.getfield 32, 3) := by decide +kernel
theorem d_M_pays_40 : decode b_M_pays 40 = .ok (.iload 4, 2) := by decide +kernel
theorem d_M_pays_42 : decode b_M_pays 42 = .ok (.iaload, 1) := by decide +kernel
theorem d_M_pays_43 : decode b_M_pays 43 = .ok (.aload_n 0, 1) := by decide +kernel
theorem d_M_pays_44 : decode b_M_pays 44 = .ok (.getfield 93, 3) := by decide +kernel
theorem d_M_pays_47 : decode b_M_pays 47 = .ok (.iload 4, 2) := by decide +kernel
theorem d_M_pays_49 : decode b_M_pays 49 = .ok (.iaload, 1) := by decide +kernel
theorem d_M_pays_50 : decode b_M_pays 50 = .ok (.iadd, 1) := by decide +kernel
theorem d_M_pays_51 : decode b_M_pays 51 = .ok (.istore 6, 2) := by decide +kernel
theorem d_M_pays_53 : decode b_M_pays 53 = .ok (.aload_n 0, 1) := by decide +kernel
theorem d_M_pays_54 : decode b_M_pays 54 = .ok (.getfield 96, 3) := by decide +kernel
theorem d_M_pays_57 : decode b_M_pays 57 = .ok (.iload 4, 2) := by decide +kernel
theorem d_M_pays_59 : decode b_M_pays 59 = .ok (.iload 5, 2) := by decide +kernel
theorem d_M_pays_61 : decode b_M_pays 61 = .ok (.iload 6, 2) := by decide +kernel
theorem d_M_pays_63 : decode b_M_pays 63 = .ok (.if_icmp .ge 8, 3) := by decide +kernel
theorem d_M_pays_66 : decode b_M_pays 66 = .ok (.iload 5, 2) := by decide +kernel
theorem d_M_pays_68 : decode b_M_pays 68 = .ok (.goto 5, 3) := by decide +kernel
theorem d_M_pays_71 : decode b_M_pays 71 = .ok (.iload 6, 2) := by decide +kernel
theorem d_M_pays_73 : decode b_M_pays 73 = .ok (.iastore, 1) := by decide +kernel
theorem d_M_pays_74 : decode b_M_pays 74 = .ok (.iload_n 3, 1) := by decide +kernel
theorem d_M_pays_75 : decode b_M_pays 75 = .ok (.aload_n 0, 1) := by decide +kernel
theorem d_M_pays_76 : decode b_M_pays 76 = .ok (.getfield 96, 3) := by decide +kernel
theorem d_M_pays_79 : decode b_M_pays 79 = .ok (.iload 4, 2) := by decide +kernel
theorem d_M_pays_81 : decode b_M_pays 81 = .ok (.iaload, 1) := by decide +kernel
theorem d_M_pays_82 : decode b_M_pays 82 = .ok (.aload_n 0, 1) := by decide +kernel
theorem d_M_pays_83 : decode b_M_pays 83 = .ok (.getfield 13, 3) := by decide +kernel
theorem d_M_pays_86 : decode b_M_pays 86 = .ok (.iload 4, 2) := by decide +kernel
theorem d_M_pays_88 : decode b_M_pays 88 = .ok (.iaload, 1) := by decide +kernel
theorem d_M_pays_89 : decode b_M_pays 89 = .ok (.imul, 1) := by decide +kernel
theorem d_M_pays_90 : decode b_M_pays 90 = .ok (.isub, 1) := by decide +kernel
theorem d_M_pays_91 : decode b_M_pays 91 = .ok (.istore_n 3, 1) := by decide +kernel
theorem d_M_pays_92 : decode b_M_pays 92 = .ok (.iload 6, 2) := by decide +kernel
theorem d_M_pays_94 : decode b_M_pays 94 = .ok (.aload_n 0, 1) := by decide +kernel
theorem d_M_pays_95 : decode b_M_pays 95 = .ok (.getfield 96, 3) := by decide +kernel
theorem d_M_pays_98 : decode b_M_pays 98 = .ok (.iload 4, 2) := by decide +kernel
theorem d_M_pays_100 : decode b_M_pays 100 = .ok (.iaload, 1) := by decide +kernel
theorem d_M_pays_101 : decode b_M_pays 101 = .ok (.isub, 1) := by decide +kernel
theorem d_M_pays_102 : decode b_M_pays 102 = .ok (.bipush 99, 2) := by decide +kernel
theorem d_M_pays_104 : decode b_M_pays 104 = .ok (.if_icmp .gt 36, 3) := by decide +kernel
theorem d_M_pays_107 : decode b_M_pays 107 = .ok (.aload_n 0, 1) := by decide +kernel
theorem d_M_pays_108 : decode b_M_pays 108 = .ok (.getfield 29, 3) := by decide +kernel
theorem d_M_pays_111 : decode b_M_pays 111 = .ok (.bipush 6, 2) := by decide +kernel
theorem d_M_pays_113 : decode b_M_pays 113 = .ok (.iload_n 1, 1) := by decide +kernel
theorem d_M_pays_114 : decode b_M_pays 114 = .ok (.imul, 1) := by decide +kernel
theorem d_M_pays_115 : decode b_M_pays 115 = .ok (.iload 4, 2) := by decide +kernel
theorem d_M_pays_117 : decode b_M_pays 117 = .ok (.iadd, 1) := by decide +kernel
theorem d_M_pays_118 : decode b_M_pays 118 = .ok (.iaload, 1) := by decide +kernel
theorem d_M_pays_119 : decode b_M_pays 119 = .ok (.aload_n 0, 1) := by decide +kernel
theorem d_M_pays_120 : decode b_M_pays 120 = .ok (.getfield 93, 3) := by decide +kernel
theorem d_M_pays_123 : decode b_M_pays 123 = .ok (.iload 4, 2) := by decide +kernel
theorem d_M_pays_125 : decode b_M_pays 125 = .ok (.iaload, 1) := by decide +kernel
theorem d_M_pays_126 : decode b_M_pays 126 = .ok (.isub, 1) := by decide +kernel
theorem d_M_pays_127 : decode b_M_pays 127 = .ok (.aload_n 0, 1) := by decide +kernel
theorem d_M_pays_128 : decode b_M_pays 128 = .ok (.getfield 96, 3) := by decide +kernel
theorem d_M_pays_131 : decode b_M_pays 131 = .ok (.iload 4, 2) := by decide +kernel
theorem d_M_pays_133 : decode b_M_pays 133 = .ok (.iaload, 1) := by decide +kernel
theorem d_M_pays_134 : decode b_M_pays 134 = .ok (.iadd, 1) := by decide +kernel
theorem d_M_pays_135 : decode b_M_pays 135 = .ok (.bipush 99, 2) := by decide +kernel
theorem d_M_pays_137 : decode b_M_pays 137 = .ok (.if_icmp .le 5, 3) := by decide +kernel
theorem d_M_pays_140 : decode b_M_pays 140 = .ok (.iconst 0, 1) := by decide +kernel
theorem d_M_pays_141 : decode b_M_pays 141 = .ok (.ireturn, 1) := by decide +kernel
theorem d_M_pays_142 : decode b_M_pays 142 = .ok (.iinc 4 (-1), 3) := by decide +kernel
theorem d_M_pays_145 : decode b_M_pays 145 = .ok (.goto (-125), 3) := by decide +kernel
theorem d_M_pays_148 : decode b_M_pays 148 = .ok (.iload_n 3, 1) := by decide +kernel
theorem d_M_pays_149 : decode b_M_pays 149 = .ok (.ifCond .ne 7, 3) := by decide +kernel
theorem d_M_pays_152 : decode b_M_pays 152 = .ok (.iconst 1, 1) := by decide +kernel
theorem d_M_pays_153 : decode b_M_pays 153 = .ok (.goto 4, 3) := by decide +kernel
theorem d_M_pays_156 : decode b_M_pays 156 = .ok (.iconst 0, 1) := by decide +kernel
theorem d_M_pays_157 : decode b_M_pays 157 = .ok (.ireturn, 1) := by decide +kernel
set_option maxRecDepth 20000 in
theorem c_M_pays_b73 {r : Int32} {wz : gW} {rec20 : Nat × Int32 × Int32 × Int32 × gW → Option (Int32 × gW)} (ih20 : ∀ (a0 : Nat) (a1 : Int32) (a3 : Int32) (a4 : Int32) (w : gW) (ls : Array Slot) (H : Heap) (locs : List Loc), rec20 (a0, a1, a3, a4, w) = some (r, wz) → lv_has ls 7 [(0, .ref (B + a0)), (1, .int a1), (3, .int a3), (4, .int a4)] → gRep D cA B w H → va_S (gA B) s.heap H locs → W p l e ({ frames := 2, cells := 0, slots := 0, locals := 61 } : Room) s m args below meth c H locs 0 0 (MQ below (gQi D cA B r wz) args s 0 0 (gA B)) (F0 m 20 ls [])) (C : gC p s m args meth c "RidCoppersModel" b_M_pays 7 (some .boolean) D cA oc B) (a0 : Nat) (a1 : Int32) (a3 : Int32) (a4 : Int32) (a6 : Int32) (z0 : Int32) (z1 : Int32) (z2 : Nat) (w : gW) {ls : Array Slot} {H : Heap} {locs : List Loc} (hl : lv_has ls 7 [(0, .ref (B + a0)), (1, .int a1), (3, .int a3), (4, .int a4), (6, .int a6)]) (hf : f_M_pays_b73 N rec20 a0 a1 a3 a4 a6 z0 z1 z2 w = some (r, wz)) (hR : gRep D cA B w H) (hS : va_S (gA B) s.heap H locs) : W p l e ({ frames := 2, cells := 0, slots := 0, locals := 61 } : Room) s m args below meth c H locs 0 0 (MQ below (gQi D cA B r wz) args s 0 0 (gA B)) (F0 m 73 ls [.int z0, .int z1, .ref (B + z2)]) := by
  obtain ⟨hx, hb, hml, hown, hts, hr, hlocks, hK, hBs⟩ := id C
  unfold f_M_pays_b73 at hf
  have ⟨h29, hf⟩ := gd_e hf
  have ⟨h30, hf⟩ := gd_e hf
  refine g_iast hx hb hK hR hS h29 h30 d_M_pays_73 (fun H locs hR hS => ?_)
  refine g_nW hf hR (fun w31 hf hR => ?_)
  refine lv_iload_n hx hb d_M_pays_74 rfl (lv_at hl 2 rfl) ?_
  refine lv_aload_n hx hb d_M_pays_75 rfl (lv_at hl 0 rfl) ?_
  have ⟨h32, hf⟩ := gd_e hf
  have ⟨x33, h34, hf⟩ := rr_e hf
  refine g_getR hx hb hts hown hK hR fl_M_96 (fun _ => rfl) h32 h34 d_M_pays_76 ?_
  refine lv_iload hx hb d_M_pays_79 (lv_at hl 3 rfl) ?_
  have ⟨h35, hf⟩ := gd_e hf
  have ⟨h36, hf⟩ := gd_e hf
  refine g_iald hx hb hK hR h35 h36 d_M_pays_81 ?_
  refine g_nI hf (fun x37 hf => ?_)
  refine lv_aload_n hx hb d_M_pays_82 rfl (lv_at hl 0 rfl) ?_
  have ⟨x38, h39, hf⟩ := rr_e hf
  refine g_getR hx hb hts hown hK hR fl_M_13 (fun _ => rfl) h32 h39 d_M_pays_83 ?_
  refine lv_iload hx hb d_M_pays_86 (lv_at hl 3 rfl) ?_
  have ⟨h40, hf⟩ := gd_e hf
  have ⟨h41, hf⟩ := gd_e hf
  refine g_iald hx hb hK hR h40 h41 d_M_pays_88 ?_
  refine g_nI hf (fun x42 hf => ?_)
  refine lv_imul hx hb d_M_pays_89 ?_
  refine g_nI hf (fun x43 hf => ?_)
  refine lv_isub hx hb d_M_pays_90 ?_
  refine g_nI hf (fun x44 hf => ?_)
  refine lv_istore_n (lv' := [(3, .int x44), (0, .ref (B + a0)), (1, .int a1), (4, .int a4), (6, .int a6)]) hx hb d_M_pays_91 rfl hl (by decide) rfl (fun ls hl => ?_)
  refine lv_iload hx hb d_M_pays_92 (lv_at hl 4 rfl) ?_
  refine lv_aload_n hx hb d_M_pays_94 rfl (lv_at hl 1 rfl) ?_
  refine g_getR hx hb hts hown hK hR fl_M_96 (fun _ => rfl) h32 h34 d_M_pays_95 ?_
  refine lv_iload hx hb d_M_pays_98 (lv_at hl 3 rfl) ?_
  refine g_iald hx hb hK hR h35 h36 d_M_pays_100 ?_
  refine g_nI hf (fun x45 hf => ?_)
  refine lv_isub hx hb d_M_pays_101 ?_
  refine g_nI hf (fun x46 hf => ?_)
  refine lv_bipush (v := 99) hx hb d_M_pays_102 (by decide) ?_
  refine lv_icmp_gt (tgt := 140) hx hb d_M_pays_104 (by decide) (fun hc => ?_) (fun hc => ?_)
  · have hf := cd_t hc hf
    refine lv_iconst (v := 0) hx hb d_M_pays_140 (by decide) ?_
    exact g_iret hx hb hr hlocks hR hS hf rfl d_M_pays_141
  have hf := cd_f hc hf
  refine lv_aload_n hx hb d_M_pays_107 rfl (lv_at hl 1 rfl) ?_
  have ⟨x47, h48, hf⟩ := rr_e hf
  refine g_getR hx hb hts hown hK hR fl_M_29 (fun _ => rfl) h32 h48 d_M_pays_108 ?_
  refine lv_bipush (v := 6) hx hb d_M_pays_111 (by decide) ?_
  refine lv_iload_n hx hb d_M_pays_113 rfl (lv_at hl 2 rfl) ?_
  refine lv_imul hx hb d_M_pays_114 ?_
  refine g_nI hf (fun x49 hf => ?_)
  refine lv_iload hx hb d_M_pays_115 (lv_at hl 3 rfl) ?_
  refine lv_iadd hx hb d_M_pays_117 ?_
  refine g_nI hf (fun x50 hf => ?_)
  have ⟨h51, hf⟩ := gd_e hf
  have ⟨h52, hf⟩ := gd_e hf
  refine g_iald hx hb hK hR h51 h52 d_M_pays_118 ?_
  refine g_nI hf (fun x53 hf => ?_)
  refine lv_aload_n hx hb d_M_pays_119 rfl (lv_at hl 1 rfl) ?_
  have ⟨x54, h55, hf⟩ := rr_e hf
  refine g_getR hx hb hts hown hK hR fl_M_93 (fun _ => rfl) h32 h55 d_M_pays_120 ?_
  refine lv_iload hx hb d_M_pays_123 (lv_at hl 3 rfl) ?_
  have ⟨h56, hf⟩ := gd_e hf
  have ⟨h57, hf⟩ := gd_e hf
  refine g_iald hx hb hK hR h56 h57 d_M_pays_125 ?_
  refine g_nI hf (fun x58 hf => ?_)
  refine lv_isub hx hb d_M_pays_126 ?_
  refine g_nI hf (fun x59 hf => ?_)
  refine lv_aload_n hx hb d_M_pays_127 rfl (lv_at hl 1 rfl) ?_
  refine g_getR hx hb hts hown hK hR fl_M_96 (fun _ => rfl) h32 h34 d_M_pays_128 ?_
  refine lv_iload hx hb d_M_pays_131 (lv_at hl 3 rfl) ?_
  refine g_iald hx hb hK hR h35 h36 d_M_pays_133 ?_
  refine g_nI hf (fun x60 hf => ?_)
  refine lv_iadd hx hb d_M_pays_134 ?_
  refine g_nI hf (fun x61 hf => ?_)
  refine lv_bipush (v := 99) hx hb d_M_pays_135 (by decide) ?_
  refine lv_icmp_le (tgt := 142) hx hb d_M_pays_137 (by decide) (fun hc => ?_) (fun hc => ?_)
  · have hf := cd_t hc hf
    refine g_iinc (lv' := fun x62 => [(4, .int x62), (3, .int x44), (0, .ref (B + a0)), (1, .int a1), (6, .int a6)]) hf hx hb d_M_pays_142 hl (k := 3) rfl (by decide) (by decide) (fun _ => rfl) (fun x62 ls hf hl => ?_)
    refine lv_goto (tgt := 20) hx hb d_M_pays_145 (by decide) ?_
    exact ih20 a0 a1 x44 x62 w31 _ _ _ hf (lv_sub hl [2, 3, 1, 0] rfl) hR hS
  have hf := cd_f hc hf
  refine lv_iconst (v := 0) hx hb d_M_pays_140 (by decide) ?_
  exact g_iret hx hb hr hlocks hR hS hf rfl d_M_pays_141
set_option maxRecDepth 20000 in
theorem c_M_pays_b20 {r : Int32} {wz : gW} {rec20 : Nat × Int32 × Int32 × Int32 × gW → Option (Int32 × gW)} (ih20 : ∀ (a0 : Nat) (a1 : Int32) (a3 : Int32) (a4 : Int32) (w : gW) (ls : Array Slot) (H : Heap) (locs : List Loc), rec20 (a0, a1, a3, a4, w) = some (r, wz) → lv_has ls 7 [(0, .ref (B + a0)), (1, .int a1), (3, .int a3), (4, .int a4)] → gRep D cA B w H → va_S (gA B) s.heap H locs → W p l e ({ frames := 2, cells := 0, slots := 0, locals := 61 } : Room) s m args below meth c H locs 0 0 (MQ below (gQi D cA B r wz) args s 0 0 (gA B)) (F0 m 20 ls [])) (C : gC p s m args meth c "RidCoppersModel" b_M_pays 7 (some .boolean) D cA oc B) (a0 : Nat) (a1 : Int32) (a3 : Int32) (a4 : Int32) (w : gW) {ls : Array Slot} {H : Heap} {locs : List Loc} (hl : lv_has ls 7 [(0, .ref (B + a0)), (1, .int a1), (3, .int a3), (4, .int a4)]) (hf : f_M_pays_b20 N rec20 a0 a1 a3 a4 w = some (r, wz)) (hR : gRep D cA B w H) (hS : va_S (gA B) s.heap H locs) : W p l e ({ frames := 2, cells := 0, slots := 0, locals := 61 } : Room) s m args below meth c H locs 0 0 (MQ below (gQi D cA B r wz) args s 0 0 (gA B)) (F0 m 20 ls []) := by
  obtain ⟨hx, hb, hml, hown, hts, hr, hlocks, hK, hBs⟩ := id C
  unfold f_M_pays_b20 at hf
  refine lv_iload hx hb d_M_pays_20 (lv_at hl 3 rfl) ?_
  refine lv_if_lt (tgt := 148) hx hb d_M_pays_22 (by decide) (fun hc => ?_) (fun hc => ?_)
  · have hf := cd_t hc hf
    refine lv_iload_n hx hb d_M_pays_148 rfl (lv_at hl 2 rfl) ?_
    refine lv_if_ne (tgt := 156) hx hb d_M_pays_149 (by decide) (fun hc => ?_) (fun hc => ?_)
    · have hf := cd_f hc hf
      refine lv_iconst (v := 0) hx hb d_M_pays_156 (by decide) ?_
      exact g_iret hx hb hr hlocks hR hS hf rfl d_M_pays_157
    have hf := cd_t hc hf
    refine lv_iconst (v := 1) hx hb d_M_pays_152 (by decide) ?_
    refine lv_goto (tgt := 157) hx hb d_M_pays_153 (by decide) ?_
    exact g_iret hx hb hr hlocks hR hS hf rfl d_M_pays_157
  have hf := cd_f hc hf
  refine lv_iload_n hx hb d_M_pays_25 rfl (lv_at hl 2 rfl) ?_
  refine lv_aload_n hx hb d_M_pays_26 rfl (lv_at hl 0 rfl) ?_
  have ⟨h8, hf⟩ := gd_e hf
  have ⟨x9, h10, hf⟩ := rr_e hf
  refine g_getR hx hb hts hown hK hR fl_M_13 (fun _ => rfl) h8 h10 d_M_pays_27 ?_
  refine lv_iload hx hb d_M_pays_30 (lv_at hl 3 rfl) ?_
  have ⟨h11, hf⟩ := gd_e hf
  have ⟨h12, hf⟩ := gd_e hf
  refine g_iald hx hb hK hR h11 h12 d_M_pays_32 ?_
  refine g_nI hf (fun x13 hf => ?_)
  have ⟨h14, hf⟩ := gd_e hf
  refine lv_idiv hx hb d_M_pays_33 h14 ?_
  refine g_nI hf (fun x15 hf => ?_)
  refine lv_istore (lv' := [(5, .int x15), (0, .ref (B + a0)), (1, .int a1), (3, .int a3), (4, .int a4)]) hx hb d_M_pays_34 hl (by decide) rfl (fun ls hl => ?_)
  refine lv_aload_n hx hb d_M_pays_36 rfl (lv_at hl 1 rfl) ?_
  have ⟨x16, h17, hf⟩ := rr_e hf
  refine g_getR hx hb hts hown hK hR fl_M_32 (fun _ => rfl) h8 h17 d_M_pays_37 ?_
  refine lv_iload hx hb d_M_pays_40 (lv_at hl 4 rfl) ?_
  have ⟨h18, hf⟩ := gd_e hf
  have ⟨h19, hf⟩ := gd_e hf
  refine g_iald hx hb hK hR h18 h19 d_M_pays_42 ?_
  refine g_nI hf (fun x20 hf => ?_)
  refine lv_aload_n hx hb d_M_pays_43 rfl (lv_at hl 1 rfl) ?_
  have ⟨x21, h22, hf⟩ := rr_e hf
  refine g_getR hx hb hts hown hK hR fl_M_93 (fun _ => rfl) h8 h22 d_M_pays_44 ?_
  refine lv_iload hx hb d_M_pays_47 (lv_at hl 4 rfl) ?_
  have ⟨h23, hf⟩ := gd_e hf
  have ⟨h24, hf⟩ := gd_e hf
  refine g_iald hx hb hK hR h23 h24 d_M_pays_49 ?_
  refine g_nI hf (fun x25 hf => ?_)
  refine lv_iadd hx hb d_M_pays_50 ?_
  refine g_nI hf (fun x26 hf => ?_)
  refine lv_istore (lv' := [(6, .int x26), (5, .int x15), (0, .ref (B + a0)), (1, .int a1), (3, .int a3), (4, .int a4)]) hx hb d_M_pays_51 hl (by decide) rfl (fun ls hl => ?_)
  refine lv_aload_n hx hb d_M_pays_53 rfl (lv_at hl 2 rfl) ?_
  have ⟨x27, h28, hf⟩ := rr_e hf
  refine g_getR hx hb hts hown hK hR fl_M_96 (fun _ => rfl) h8 h28 d_M_pays_54 ?_
  refine lv_iload hx hb d_M_pays_57 (lv_at hl 5 rfl) ?_
  refine lv_iload hx hb d_M_pays_59 (lv_at hl 1 rfl) ?_
  refine lv_iload hx hb d_M_pays_61 (lv_at hl 0 rfl) ?_
  refine lv_icmp_ge (tgt := 71) hx hb d_M_pays_63 (by decide) (fun hc => ?_) (fun hc => ?_)
  · have hf := cd_t hc hf
    refine lv_iload hx hb d_M_pays_71 (lv_at hl 0 rfl) ?_
    exact c_M_pays_b73 ih20 C a0 a1 a3 a4 x26 x26 a4 x27 w (lv_sub hl [2, 3, 4, 5, 0] rfl) hf hR hS
  have hf := cd_f hc hf
  refine lv_iload hx hb d_M_pays_66 (lv_at hl 1 rfl) ?_
  refine lv_goto (tgt := 73) hx hb d_M_pays_68 (by decide) ?_
  exact c_M_pays_b73 ih20 C a0 a1 a3 a4 x26 x15 a4 x27 w (lv_sub hl [2, 3, 4, 5, 0] rfl) hf hR hS
theorem c_M_pays_l20 {r : Int32} {wz : gW} (C : gC p s m args meth c "RidCoppersModel" b_M_pays 7 (some .boolean) D cA oc B) (a0 : Nat) (a1 : Int32) (a3 : Int32) (a4 : Int32) (w : gW) {ls : Array Slot} {H : Heap} {locs : List Loc} (hl : lv_has ls 7 [(0, .ref (B + a0)), (1, .int a1), (3, .int a3), (4, .int a4)]) (hf : f_M_pays_l20 N a0 a1 a3 a4 w = some (r, wz)) (hR : gRep D cA B w H) (hS : va_S (gA B) s.heap H locs) : W p l e ({ frames := 2, cells := 0, slots := 0, locals := 61 } : Room) s m args below meth c H locs 0 0 (MQ below (gQi D cA B r wz) args s 0 0 (gA B)) (F0 m 20 ls []) := by
  unfold f_M_pays_l20 at hf
  suffices hh : ∀ n : Nat, ∀ (a0 : Nat) (a1 : Int32) (a3 : Int32) (a4 : Int32) (w : gW) (ls : Array Slot) (H : Heap) (locs : List Loc), itr (fun rec (q : Nat × Int32 × Int32 × Int32 × gW) => f_M_pays_b20 N rec q.1 q.2.1 q.2.2.1 q.2.2.2.1 q.2.2.2.2) n (a0, a1, a3, a4, w) = some (r, wz) → lv_has ls 7 [(0, .ref (B + a0)), (1, .int a1), (3, .int a3), (4, .int a4)] → gRep D cA B w H → va_S (gA B) s.heap H locs → W p l e ({ frames := 2, cells := 0, slots := 0, locals := 61 } : Room) s m args below meth c H locs 0 0 (MQ below (gQi D cA B r wz) args s 0 0 (gA B)) (F0 m 20 ls []) from hh N a0 a1 a3 a4 w ls H locs hf hl hR hS
  intro n
  induction n with
  | zero => intro a0 a1 a3 a4 w ls H locs hf; cases hf
  | succ n ihn =>
    intro a0 a1 a3 a4 w ls H locs hf hl hR hS
    exact c_M_pays_b20 (N := N) ihn C a0 a1 a3 a4 w hl ((itr_s _ _ _).symm.trans hf) hR hS
set_option maxRecDepth 20000 in
theorem c_M_pays_b0 {r : Int32} {wz : gW} (C : gC p s m args meth c "RidCoppersModel" b_M_pays 7 (some .boolean) D cA oc B) (a0 : Nat) (a1 : Int32) (a2 : Int32) (w : gW) {ls : Array Slot} {H : Heap} {locs : List Loc} (hl : lv_has ls 7 [(0, .ref (B + a0)), (1, .int a1), (2, .int a2)]) (hf : f_M_pays_b0 N a0 a1 a2 w = some (r, wz)) (hR : gRep D cA B w H) (hS : va_S (gA B) s.heap H locs) : W p l e ({ frames := 2, cells := 0, slots := 0, locals := 61 } : Room) s m args below meth c H locs 0 0 (MQ below (gQi D cA B r wz) args s 0 0 (gA B)) (F0 m 0 ls []) := by
  obtain ⟨hx, hb, hml, hown, hts, hr, hlocks, hK, hBs⟩ := id C
  unfold f_M_pays_b0 at hf
  refine lv_aload_n hx hb d_M_pays_0 rfl (lv_at hl 0 rfl) ?_
  have ⟨h4, hf⟩ := gd_e hf
  have ⟨x1, w2, h3, hf⟩ := kl_e hf
  refine g_kv0 (g_rV (As := []) (rest := []) hx hb hml hown hts hK hR hS (c_M_laySum l D cA oc B N a0 w h3) I_M_laySum m_1364 mp_59 (gRecv hK hR (ci := 12) rfl h4) rfl rfl (Nat.le_of_ble_eq_true rfl) hl.1 ⟨Nat.le_of_ble_eq_true rfl, Nat.le_of_ble_eq_true rfl⟩ ⟨Nat.le_of_ble_eq_true rfl, Nat.le_of_ble_eq_true rfl⟩ d_M_pays_1) hS (fun H locs hR hS => ?_)
  refine lv_aload_n hx hb d_M_pays_4 rfl (lv_at hl 0 rfl) ?_
  have ⟨h5, hf⟩ := gd_e hf
  refine g_getI hx hb hts hown hK hR fl_M_108 (fun _ => rfl) h5 d_M_pays_5 ?_
  refine g_nI hf (fun x6 hf => ?_)
  refine lv_iload_n hx hb d_M_pays_8 rfl (lv_at hl 2 rfl) ?_
  refine lv_isub hx hb d_M_pays_9 ?_
  refine g_nI hf (fun x7 hf => ?_)
  refine lv_istore_n (lv' := [(3, .int x7), (0, .ref (B + a0)), (1, .int a1), (2, .int a2)]) hx hb d_M_pays_10 rfl hl (by decide) rfl (fun ls hl => ?_)
  refine lv_iload_n hx hb d_M_pays_11 rfl (lv_at hl 0 rfl) ?_
  refine lv_if_ge (tgt := 17) hx hb d_M_pays_12 (by decide) (fun hc => ?_) (fun hc => ?_)
  · have hf := cd_t hc hf
    refine lv_iconst (v := 5) hx hb d_M_pays_17 (by decide) ?_
    refine lv_istore (lv' := [(4, .int 5), (3, .int x7), (0, .ref (B + a0)), (1, .int a1), (2, .int a2)]) hx hb d_M_pays_18 hl (by decide) rfl (fun ls hl => ?_)
    exact c_M_pays_l20 C a0 a1 x7 5 w2 (lv_sub hl [2, 3, 1, 0] rfl) hf hR hS
  have hf := cd_f hc hf
  refine lv_iconst (v := 0) hx hb d_M_pays_15 (by decide) ?_
  exact g_iret hx hb hr hlocks hR hS hf rfl d_M_pays_16
theorem c_M_pays (l : Launch) (D : va_G) (cA : Nat → ClassId) (oc : gO) (B N : Nat) (a0 : Nat) (a1 : Int32) (a2 : Int32) (w : gW) {wz : gW} {r : Int32} (hf : f_M_pays N a0 a1 a2 w = some (r, wz)) : Met l y_M_pays (Cond.code y_M_pays b_M_pays 7 (some .boolean) :: lw_good) ({ frames := 2, cells := 0, slots := 0, locals := 61 } : Room) (gPre D cA oc B [.ref (B + a0), .int a1, .int a2] w) (gQi D cA B r wz) 0 0 (gA B) := by
  refine Met.ofW (cc := b_M_pays) (maxL := 7) (ret := (some .boolean)) (by decide +kernel) rfl ?_
  intro p e s m args below meth c s₁ Bd hml hv
  obtain ⟨hargs, C, hR⟩ := gC.enter (l := l) rfl Bd hml hv
  subst hargs
  have hl := lv_entry ([.ref (B + a0), .int a1, .int a2]) (n := 7) (Nat.le_of_ble_eq_true rfl)
  rw [lg_entry_eq]
  generalize (lg_sl ([.ref (B + a0), .int a1, .int a2]) ++ List.replicate (7 - (lg_sl ([.ref (B + a0), .int a1, .int a2])).length) Slot.unset).toArray = ls at hl ⊢
  have hl : lv_has ls 7 [(0, .ref (B + a0)), (1, .int a1), (2, .int a2)] := hl
  exact c_M_pays_b0 C a0 a1 a2 w (lv_sub hl [0, 1, 2] rfl) hf hR va_S.rf
theorem d_M_weightBehind_0 : decode b_M_weightBehind 0 = .ok (.iconst 0, 1) := by decide +kernel
theorem d_M_weightBehind_1 : decode b_M_weightBehind 1 = .ok (.istore_n 2, 1) := by decide +kernel
theorem d_M_weightBehind_2 : decode b_M_weightBehind 2 = .ok (.iconst 0, 1) := by decide +kernel
theorem d_M_weightBehind_3 : decode b_M_weightBehind 3 = .ok (.istore_n 3, 1) := by decide +kernel
theorem d_M_weightBehind_4 : decode b_M_weightBehind 4 = .ok (.iload_n 3, 1) := by decide +kernel
theorem d_M_weightBehind_5 : decode b_M_weightBehind 5 = .ok (.bipush 6, 2) := by decide +kernel
theorem d_M_weightBehind_7 : decode b_M_weightBehind 7 = .ok (.if_icmp .ge 44, 3) := by decide +kernel
theorem d_M_weightBehind_10 : decode b_M_weightBehind 10 = .ok (.iload_n 2, 1) := by decide +kernel
theorem d_M_weightBehind_11 : decode b_M_weightBehind 11 = .ok (.aload_n 0, 1) := by decide +kernel
theorem d_M_weightBehind_12 : decode b_M_weightBehind 12 = .ok (.getfield 29, 3) := by decide +kernel
theorem d_M_weightBehind_15 : decode b_M_weightBehind 15 = .ok (.bipush 6, 2) := by decide +kernel
theorem d_M_weightBehind_17 : decode b_M_weightBehind 17 = .ok (.iload_n 1, 1) := by decide +kernel
theorem d_M_weightBehind_18 : decode b_M_weightBehind 18 = .ok (.imul, 1) := by decide +kernel
theorem d_M_weightBehind_19 : decode b_M_weightBehind 19 = .ok (.iload_n 3, 1) := by decide +kernel
theorem d_M_weightBehind_20 : decode b_M_weightBehind 20 = .ok (.iadd, 1) := by decide +kernel
theorem d_M_weightBehind_21 : decode b_M_weightBehind 21 = .ok (.iaload, 1) := by decide +kernel
theorem d_M_weightBehind_22 : decode b_M_weightBehind 22 = .ok (.aload_n 0, 1) := by decide +kernel
theorem d_M_weightBehind_23 : decode b_M_weightBehind 23 = .ok (.getfield 93, 3) := by decide +kernel
theorem d_M_weightBehind_26 : decode b_M_weightBehind 26 = .ok (.iload_n 3, 1) := by decide +kernel
theorem d_M_weightBehind_27 : decode b_M_weightBehind 27 = .ok (.iaload, 1) := by decide +kernel
theorem d_M_weightBehind_28 : decode b_M_weightBehind 28 = .ok (.isub, 1) := by decide +kernel
theorem d_M_weightBehind_29 : decode b_M_weightBehind 29 = .ok (.aload_n 0, 1) := by decide +kernel
theorem d_M_weightBehind_30 : decode b_M_weightBehind 30 = .ok (.getfield 96, 3) := by decide +kernel
theorem d_M_weightBehind_33 : decode b_M_weightBehind 33 = .ok (.iload_n 3, 1) := by decide +kernel
theorem d_M_weightBehind_34 : decode b_M_weightBehind 34 = .ok (.iaload, 1) := by decide +kernel
theorem d_M_weightBehind_35 : decode b_M_weightBehind 35 = .ok (.iadd, 1) := by decide +kernel
theorem d_M_weightBehind_36 : decode b_M_weightBehind 36 = .ok (.aload_n 0, 1) := by decide +kernel
theorem d_M_weightBehind_37 : decode b_M_weightBehind 37 = .ok (.getfield 99, 3) := by decide +kernel
theorem d_M_weightBehind_40 : decode b_M_weightBehind 40 = .ok (.iload_n 3, 1) := by decide +kernel
theorem d_M_weightBehind_41 : decode b_M_weightBehind 41 = .ok (.iaload, 1) := by decide +kernel
theorem d_M_weightBehind_42 : decode b_M_weightBehind 42 = .ok (.imul, 1) := by decide +kernel
theorem d_M_weightBehind_43 : decode b_M_weightBehind 43 = .ok (.iadd, 1) := by decide +kernel
theorem d_M_weightBehind_44 : decode b_M_weightBehind 44 = .ok (.istore_n 2, 1) := by decide +kernel
theorem d_M_weightBehind_45 : decode b_M_weightBehind 45 = .ok (.iinc 3 1, 3) := by decide +kernel
theorem d_M_weightBehind_48 : decode b_M_weightBehind 48 = .ok (.goto (-44), 3) := by decide +kernel
theorem d_M_weightBehind_51 : decode b_M_weightBehind 51 = .ok (.iload_n 2, 1) := by decide +kernel
theorem d_M_weightBehind_52 : decode b_M_weightBehind 52 = .ok (.ireturn, 1) := by decide +kernel
set_option maxRecDepth 20000 in
theorem c_M_weightBehind_b4 {r : Int32} {wz : gW} {rec4 : Nat × Int32 × Int32 × Int32 × gW → Option (Int32 × gW)} (ih4 : ∀ (a0 : Nat) (a1 : Int32) (a2 : Int32) (a3 : Int32) (w : gW) (ls : Array Slot) (H : Heap) (locs : List Loc), rec4 (a0, a1, a2, a3, w) = some (r, wz) → lv_has ls 4 [(0, .ref (B + a0)), (1, .int a1), (2, .int a2), (3, .int a3)] → gRep D cA B w H → va_S (gA B) s.heap H locs → W p l e ({ frames := 1, cells := 0, slots := 0, locals := 40 } : Room) s m args below meth c H locs 0 0 (MQ below (gQi D cA B r wz) args s 0 0 (gA B)) (F0 m 4 ls [])) (C : gC p s m args meth c "RidCoppersModel" b_M_weightBehind 4 (some .int) D cA oc B) (a0 : Nat) (a1 : Int32) (a2 : Int32) (a3 : Int32) (w : gW) {ls : Array Slot} {H : Heap} {locs : List Loc} (hl : lv_has ls 4 [(0, .ref (B + a0)), (1, .int a1), (2, .int a2), (3, .int a3)]) (hf : f_M_weightBehind_b4 N rec4 a0 a1 a2 a3 w = some (r, wz)) (hR : gRep D cA B w H) (hS : va_S (gA B) s.heap H locs) : W p l e ({ frames := 1, cells := 0, slots := 0, locals := 40 } : Room) s m args below meth c H locs 0 0 (MQ below (gQi D cA B r wz) args s 0 0 (gA B)) (F0 m 4 ls []) := by
  obtain ⟨hx, hb, hml, hown, hts, hr, hlocks, hK, hBs⟩ := id C
  unfold f_M_weightBehind_b4 at hf
  refine lv_iload_n hx hb d_M_weightBehind_4 rfl (lv_at hl 3 rfl) ?_
  refine lv_bipush (v := 6) hx hb d_M_weightBehind_5 (by decide) ?_
  refine lv_icmp_ge (tgt := 51) hx hb d_M_weightBehind_7 (by decide) (fun hc => ?_) (fun hc => ?_)
  · have hf := cd_t hc hf
    refine lv_iload_n hx hb d_M_weightBehind_51 rfl (lv_at hl 2 rfl) ?_
    exact g_iret hx hb hr hlocks hR hS hf rfl d_M_weightBehind_52
  have hf := cd_f hc hf
  refine lv_iload_n hx hb d_M_weightBehind_10 rfl (lv_at hl 2 rfl) ?_
  refine lv_aload_n hx hb d_M_weightBehind_11 rfl (lv_at hl 0 rfl) ?_
  have ⟨h1, hf⟩ := gd_e hf
  have ⟨x2, h3, hf⟩ := rr_e hf
  refine g_getR hx hb hts hown hK hR fl_M_29 (fun _ => rfl) h1 h3 d_M_weightBehind_12 ?_
  refine lv_bipush (v := 6) hx hb d_M_weightBehind_15 (by decide) ?_
  refine lv_iload_n hx hb d_M_weightBehind_17 rfl (lv_at hl 1 rfl) ?_
  refine lv_imul hx hb d_M_weightBehind_18 ?_
  refine g_nI hf (fun x4 hf => ?_)
  refine lv_iload_n hx hb d_M_weightBehind_19 rfl (lv_at hl 3 rfl) ?_
  refine lv_iadd hx hb d_M_weightBehind_20 ?_
  refine g_nI hf (fun x5 hf => ?_)
  have ⟨h6, hf⟩ := gd_e hf
  have ⟨h7, hf⟩ := gd_e hf
  refine g_iald hx hb hK hR h6 h7 d_M_weightBehind_21 ?_
  refine g_nI hf (fun x8 hf => ?_)
  refine lv_aload_n hx hb d_M_weightBehind_22 rfl (lv_at hl 0 rfl) ?_
  have ⟨x9, h10, hf⟩ := rr_e hf
  refine g_getR hx hb hts hown hK hR fl_M_93 (fun _ => rfl) h1 h10 d_M_weightBehind_23 ?_
  refine lv_iload_n hx hb d_M_weightBehind_26 rfl (lv_at hl 3 rfl) ?_
  have ⟨h11, hf⟩ := gd_e hf
  have ⟨h12, hf⟩ := gd_e hf
  refine g_iald hx hb hK hR h11 h12 d_M_weightBehind_27 ?_
  refine g_nI hf (fun x13 hf => ?_)
  refine lv_isub hx hb d_M_weightBehind_28 ?_
  refine g_nI hf (fun x14 hf => ?_)
  refine lv_aload_n hx hb d_M_weightBehind_29 rfl (lv_at hl 0 rfl) ?_
  have ⟨x15, h16, hf⟩ := rr_e hf
  refine g_getR hx hb hts hown hK hR fl_M_96 (fun _ => rfl) h1 h16 d_M_weightBehind_30 ?_
  refine lv_iload_n hx hb d_M_weightBehind_33 rfl (lv_at hl 3 rfl) ?_
  have ⟨h17, hf⟩ := gd_e hf
  have ⟨h18, hf⟩ := gd_e hf
  refine g_iald hx hb hK hR h17 h18 d_M_weightBehind_34 ?_
  refine g_nI hf (fun x19 hf => ?_)
  refine lv_iadd hx hb d_M_weightBehind_35 ?_
  refine g_nI hf (fun x20 hf => ?_)
  refine lv_aload_n hx hb d_M_weightBehind_36 rfl (lv_at hl 0 rfl) ?_
  have ⟨x21, h22, hf⟩ := rr_e hf
  refine g_getR hx hb hts hown hK hR fl_M_99 (fun _ => rfl) h1 h22 d_M_weightBehind_37 ?_
  refine lv_iload_n hx hb d_M_weightBehind_40 rfl (lv_at hl 3 rfl) ?_
  have ⟨h23, hf⟩ := gd_e hf
  have ⟨h24, hf⟩ := gd_e hf
  refine g_iald hx hb hK hR h23 h24 d_M_weightBehind_41 ?_
  refine g_nI hf (fun x25 hf => ?_)
  refine lv_imul hx hb d_M_weightBehind_42 ?_
  refine g_nI hf (fun x26 hf => ?_)
  refine lv_iadd hx hb d_M_weightBehind_43 ?_
  refine g_nI hf (fun x27 hf => ?_)
  refine lv_istore_n (lv' := [(2, .int x27), (0, .ref (B + a0)), (1, .int a1), (3, .int a3)]) hx hb d_M_weightBehind_44 rfl hl (by decide) rfl (fun ls hl => ?_)
  refine g_iinc (lv' := fun x28 => [(3, .int x28), (2, .int x27), (0, .ref (B + a0)), (1, .int a1)]) hf hx hb d_M_weightBehind_45 hl (k := 3) rfl (by decide) (by decide) (fun _ => rfl) (fun x28 ls hf hl => ?_)
  refine lv_goto (tgt := 4) hx hb d_M_weightBehind_48 (by decide) ?_
  exact ih4 a0 a1 x27 x28 w _ _ _ hf (lv_sub hl [2, 3, 1, 0] rfl) hR hS
theorem c_M_weightBehind_l4 {r : Int32} {wz : gW} (C : gC p s m args meth c "RidCoppersModel" b_M_weightBehind 4 (some .int) D cA oc B) (a0 : Nat) (a1 : Int32) (a2 : Int32) (a3 : Int32) (w : gW) {ls : Array Slot} {H : Heap} {locs : List Loc} (hl : lv_has ls 4 [(0, .ref (B + a0)), (1, .int a1), (2, .int a2), (3, .int a3)]) (hf : f_M_weightBehind_l4 N a0 a1 a2 a3 w = some (r, wz)) (hR : gRep D cA B w H) (hS : va_S (gA B) s.heap H locs) : W p l e ({ frames := 1, cells := 0, slots := 0, locals := 40 } : Room) s m args below meth c H locs 0 0 (MQ below (gQi D cA B r wz) args s 0 0 (gA B)) (F0 m 4 ls []) := by
  unfold f_M_weightBehind_l4 at hf
  suffices hh : ∀ n : Nat, ∀ (a0 : Nat) (a1 : Int32) (a2 : Int32) (a3 : Int32) (w : gW) (ls : Array Slot) (H : Heap) (locs : List Loc), itr (fun rec (q : Nat × Int32 × Int32 × Int32 × gW) => f_M_weightBehind_b4 N rec q.1 q.2.1 q.2.2.1 q.2.2.2.1 q.2.2.2.2) n (a0, a1, a2, a3, w) = some (r, wz) → lv_has ls 4 [(0, .ref (B + a0)), (1, .int a1), (2, .int a2), (3, .int a3)] → gRep D cA B w H → va_S (gA B) s.heap H locs → W p l e ({ frames := 1, cells := 0, slots := 0, locals := 40 } : Room) s m args below meth c H locs 0 0 (MQ below (gQi D cA B r wz) args s 0 0 (gA B)) (F0 m 4 ls []) from hh N a0 a1 a2 a3 w ls H locs hf hl hR hS
  intro n
  induction n with
  | zero => intro a0 a1 a2 a3 w ls H locs hf; cases hf
  | succ n ihn =>
    intro a0 a1 a2 a3 w ls H locs hf hl hR hS
    exact c_M_weightBehind_b4 (N := N) ihn C a0 a1 a2 a3 w hl ((itr_s _ _ _).symm.trans hf) hR hS
set_option maxRecDepth 20000 in
theorem c_M_weightBehind_b0 {r : Int32} {wz : gW} (C : gC p s m args meth c "RidCoppersModel" b_M_weightBehind 4 (some .int) D cA oc B) (a0 : Nat) (a1 : Int32) (w : gW) {ls : Array Slot} {H : Heap} {locs : List Loc} (hl : lv_has ls 4 [(0, .ref (B + a0)), (1, .int a1)]) (hf : f_M_weightBehind_b0 N a0 a1 w = some (r, wz)) (hR : gRep D cA B w H) (hS : va_S (gA B) s.heap H locs) : W p l e ({ frames := 1, cells := 0, slots := 0, locals := 40 } : Room) s m args below meth c H locs 0 0 (MQ below (gQi D cA B r wz) args s 0 0 (gA B)) (F0 m 0 ls []) := by
  obtain ⟨hx, hb, hml, hown, hts, hr, hlocks, hK, hBs⟩ := id C
  unfold f_M_weightBehind_b0 at hf
  refine lv_iconst (v := 0) hx hb d_M_weightBehind_0 (by decide) ?_
  refine lv_istore_n (lv' := [(2, .int 0), (0, .ref (B + a0)), (1, .int a1)]) hx hb d_M_weightBehind_1 rfl hl (by decide) rfl (fun ls hl => ?_)
  refine lv_iconst (v := 0) hx hb d_M_weightBehind_2 (by decide) ?_
  refine lv_istore_n (lv' := [(3, .int 0), (2, .int 0), (0, .ref (B + a0)), (1, .int a1)]) hx hb d_M_weightBehind_3 rfl hl (by decide) rfl (fun ls hl => ?_)
  exact c_M_weightBehind_l4 C a0 a1 0 0 w (lv_sub hl [2, 3, 1, 0] rfl) hf hR hS
theorem c_M_weightBehind (l : Launch) (D : va_G) (cA : Nat → ClassId) (oc : gO) (B N : Nat) (a0 : Nat) (a1 : Int32) (w : gW) {wz : gW} {r : Int32} (hf : f_M_weightBehind N a0 a1 w = some (r, wz)) : Met l y_M_weightBehind (Cond.code y_M_weightBehind b_M_weightBehind 4 (some .int) :: lw_good) ({ frames := 1, cells := 0, slots := 0, locals := 40 } : Room) (gPre D cA oc B [.ref (B + a0), .int a1] w) (gQi D cA B r wz) 0 0 (gA B) := by
  refine Met.ofW (cc := b_M_weightBehind) (maxL := 4) (ret := (some .int)) (by decide +kernel) rfl ?_
  intro p e s m args below meth c s₁ Bd hml hv
  obtain ⟨hargs, C, hR⟩ := gC.enter (l := l) rfl Bd hml hv
  subst hargs
  have hl := lv_entry ([.ref (B + a0), .int a1]) (n := 4) (Nat.le_of_ble_eq_true rfl)
  rw [lg_entry_eq]
  generalize (lg_sl ([.ref (B + a0), .int a1]) ++ List.replicate (4 - (lg_sl ([.ref (B + a0), .int a1])).length) Slot.unset).toArray = ls at hl ⊢
  have hl : lv_has ls 4 [(0, .ref (B + a0)), (1, .int a1)] := hl
  exact c_M_weightBehind_b0 C a0 a1 w (lv_sub hl [0, 1] rfl) hf hR va_S.rf
theorem d_M_coinsBehind_0 : decode b_M_coinsBehind 0 = .ok (.aload_n 0, 1) := by decide +kernel
theorem d_M_coinsBehind_1 : decode b_M_coinsBehind 1 = .ok (.iload_n 1, 1) := by decide +kernel
theorem d_M_coinsBehind_2 : decode b_M_coinsBehind 2 = .ok (.invokevirtual 315, 3) := by decide +kernel
theorem d_M_coinsBehind_5 : decode b_M_coinsBehind 5 = .ok (.aload_n 0, 1) := by decide +kernel
theorem d_M_coinsBehind_6 : decode b_M_coinsBehind 6 = .ok (.getfield 111, 3) := by decide +kernel
theorem d_M_coinsBehind_9 : decode b_M_coinsBehind 9 = .ok (.isub, 1) := by decide +kernel
theorem d_M_coinsBehind_10 : decode b_M_coinsBehind 10 = .ok (.istore_n 2, 1) := by decide +kernel
theorem d_M_coinsBehind_11 : decode b_M_coinsBehind 11 = .ok (.iconst 0, 1) := by decide +kernel
theorem d_M_coinsBehind_12 : decode b_M_coinsBehind 12 = .ok (.istore_n 3, 1) := by decide +kernel
theorem d_M_coinsBehind_13 : decode b_M_coinsBehind 13 = .ok (.iload_n 3, 1) := by decide +kernel
theorem d_M_coinsBehind_14 : decode b_M_coinsBehind 14 = .ok (.bipush 6, 2) := by decide +kernel
theorem d_M_coinsBehind_16 : decode b_M_coinsBehind 16 = .ok (.if_icmp .ge 18, 3) := by decide +kernel
theorem d_M_coinsBehind_19 : decode b_M_coinsBehind 19 = .ok (.iload_n 2, 1) := by decide +kernel
theorem d_M_coinsBehind_20 : decode b_M_coinsBehind 20 = .ok (.aload_n 0, 1) := by decide +kernel
theorem d_M_coinsBehind_21 : decode b_M_coinsBehind 21 = .ok (.getfield 96, 3) := by decide +kernel
theorem d_M_coinsBehind_24 : decode b_M_coinsBehind 24 = .ok (.iload_n 3, 1) := by decide +kernel
theorem d_M_coinsBehind_25 : decode b_M_coinsBehind 25 = .ok (.iaload, 1) := by decide +kernel
theorem d_M_coinsBehind_26 : decode b_M_coinsBehind 26 = .ok (.iadd, 1) := by decide +kernel
theorem d_M_coinsBehind_27 : decode b_M_coinsBehind 27 = .ok (.istore_n 2, 1) := by decide +kernel
theorem d_M_coinsBehind_28 : decode b_M_coinsBehind 28 = .ok (.iinc 3 1, 3) := by decide +kernel
theorem d_M_coinsBehind_31 : decode b_M_coinsBehind 31 = .ok (.goto (-18), 3) := by decide +kernel
theorem d_M_coinsBehind_34 : decode b_M_coinsBehind 34 = .ok (.iload_n 2, 1) := by decide +kernel
theorem d_M_coinsBehind_35 : decode b_M_coinsBehind 35 = .ok (.ireturn, 1) := by decide +kernel
set_option maxRecDepth 20000 in
theorem c_M_coinsBehind_b13 {r : Int32} {wz : gW} {rec13 : Nat × Int32 × Int32 × gW → Option (Int32 × gW)} (ih13 : ∀ (a0 : Nat) (a2 : Int32) (a3 : Int32) (w : gW) (ls : Array Slot) (H : Heap) (locs : List Loc), rec13 (a0, a2, a3, w) = some (r, wz) → lv_has ls 4 [(0, .ref (B + a0)), (2, .int a2), (3, .int a3)] → gRep D cA B w H → va_S (gA B) s.heap H locs → W p l e ({ frames := 2, cells := 0, slots := 0, locals := 63 } : Room) s m args below meth c H locs 0 0 (MQ below (gQi D cA B r wz) args s 0 0 (gA B)) (F0 m 13 ls [])) (C : gC p s m args meth c "RidCoppersModel" b_M_coinsBehind 4 (some .int) D cA oc B) (a0 : Nat) (a2 : Int32) (a3 : Int32) (w : gW) {ls : Array Slot} {H : Heap} {locs : List Loc} (hl : lv_has ls 4 [(0, .ref (B + a0)), (2, .int a2), (3, .int a3)]) (hf : f_M_coinsBehind_b13 N rec13 a0 a2 a3 w = some (r, wz)) (hR : gRep D cA B w H) (hS : va_S (gA B) s.heap H locs) : W p l e ({ frames := 2, cells := 0, slots := 0, locals := 63 } : Room) s m args below meth c H locs 0 0 (MQ below (gQi D cA B r wz) args s 0 0 (gA B)) (F0 m 13 ls []) := by
  obtain ⟨hx, hb, hml, hown, hts, hr, hlocks, hK, hBs⟩ := id C
  unfold f_M_coinsBehind_b13 at hf
  refine lv_iload_n hx hb d_M_coinsBehind_13 rfl (lv_at hl 2 rfl) ?_
  refine lv_bipush (v := 6) hx hb d_M_coinsBehind_14 (by decide) ?_
  refine lv_icmp_ge (tgt := 34) hx hb d_M_coinsBehind_16 (by decide) (fun hc => ?_) (fun hc => ?_)
  · have hf := cd_t hc hf
    refine lv_iload_n hx hb d_M_coinsBehind_34 rfl (lv_at hl 1 rfl) ?_
    exact g_iret hx hb hr hlocks hR hS hf rfl d_M_coinsBehind_35
  have hf := cd_f hc hf
  refine lv_iload_n hx hb d_M_coinsBehind_19 rfl (lv_at hl 1 rfl) ?_
  refine lv_aload_n hx hb d_M_coinsBehind_20 rfl (lv_at hl 0 rfl) ?_
  have ⟨h8, hf⟩ := gd_e hf
  have ⟨x9, h10, hf⟩ := rr_e hf
  refine g_getR hx hb hts hown hK hR fl_M_96 (fun _ => rfl) h8 h10 d_M_coinsBehind_21 ?_
  refine lv_iload_n hx hb d_M_coinsBehind_24 rfl (lv_at hl 2 rfl) ?_
  have ⟨h11, hf⟩ := gd_e hf
  have ⟨h12, hf⟩ := gd_e hf
  refine g_iald hx hb hK hR h11 h12 d_M_coinsBehind_25 ?_
  refine g_nI hf (fun x13 hf => ?_)
  refine lv_iadd hx hb d_M_coinsBehind_26 ?_
  refine g_nI hf (fun x14 hf => ?_)
  refine lv_istore_n (lv' := [(2, .int x14), (0, .ref (B + a0)), (3, .int a3)]) hx hb d_M_coinsBehind_27 rfl hl (by decide) rfl (fun ls hl => ?_)
  refine g_iinc (lv' := fun x15 => [(3, .int x15), (2, .int x14), (0, .ref (B + a0))]) hf hx hb d_M_coinsBehind_28 hl (k := 2) rfl (by decide) (by decide) (fun _ => rfl) (fun x15 ls hf hl => ?_)
  refine lv_goto (tgt := 13) hx hb d_M_coinsBehind_31 (by decide) ?_
  exact ih13 a0 x14 x15 w _ _ _ hf (lv_sub hl [2, 1, 0] rfl) hR hS
theorem c_M_coinsBehind_l13 {r : Int32} {wz : gW} (C : gC p s m args meth c "RidCoppersModel" b_M_coinsBehind 4 (some .int) D cA oc B) (a0 : Nat) (a2 : Int32) (a3 : Int32) (w : gW) {ls : Array Slot} {H : Heap} {locs : List Loc} (hl : lv_has ls 4 [(0, .ref (B + a0)), (2, .int a2), (3, .int a3)]) (hf : f_M_coinsBehind_l13 N a0 a2 a3 w = some (r, wz)) (hR : gRep D cA B w H) (hS : va_S (gA B) s.heap H locs) : W p l e ({ frames := 2, cells := 0, slots := 0, locals := 63 } : Room) s m args below meth c H locs 0 0 (MQ below (gQi D cA B r wz) args s 0 0 (gA B)) (F0 m 13 ls []) := by
  unfold f_M_coinsBehind_l13 at hf
  suffices hh : ∀ n : Nat, ∀ (a0 : Nat) (a2 : Int32) (a3 : Int32) (w : gW) (ls : Array Slot) (H : Heap) (locs : List Loc), itr (fun rec (q : Nat × Int32 × Int32 × gW) => f_M_coinsBehind_b13 N rec q.1 q.2.1 q.2.2.1 q.2.2.2) n (a0, a2, a3, w) = some (r, wz) → lv_has ls 4 [(0, .ref (B + a0)), (2, .int a2), (3, .int a3)] → gRep D cA B w H → va_S (gA B) s.heap H locs → W p l e ({ frames := 2, cells := 0, slots := 0, locals := 63 } : Room) s m args below meth c H locs 0 0 (MQ below (gQi D cA B r wz) args s 0 0 (gA B)) (F0 m 13 ls []) from hh N a0 a2 a3 w ls H locs hf hl hR hS
  intro n
  induction n with
  | zero => intro a0 a2 a3 w ls H locs hf; cases hf
  | succ n ihn =>
    intro a0 a2 a3 w ls H locs hf hl hR hS
    exact c_M_coinsBehind_b13 (N := N) ihn C a0 a2 a3 w hl ((itr_s _ _ _).symm.trans hf) hR hS
set_option maxRecDepth 20000 in
theorem c_M_coinsBehind_b0 {r : Int32} {wz : gW} (C : gC p s m args meth c "RidCoppersModel" b_M_coinsBehind 4 (some .int) D cA oc B) (a0 : Nat) (a1 : Int32) (w : gW) {ls : Array Slot} {H : Heap} {locs : List Loc} (hl : lv_has ls 4 [(0, .ref (B + a0)), (1, .int a1)]) (hf : f_M_coinsBehind_b0 N a0 a1 w = some (r, wz)) (hR : gRep D cA B w H) (hS : va_S (gA B) s.heap H locs) : W p l e ({ frames := 2, cells := 0, slots := 0, locals := 63 } : Room) s m args below meth c H locs 0 0 (MQ below (gQi D cA B r wz) args s 0 0 (gA B)) (F0 m 0 ls []) := by
  obtain ⟨hx, hb, hml, hown, hts, hr, hlocks, hK, hBs⟩ := id C
  unfold f_M_coinsBehind_b0 at hf
  refine lv_aload_n hx hb d_M_coinsBehind_0 rfl (lv_at hl 0 rfl) ?_
  refine lv_iload_n hx hb d_M_coinsBehind_1 rfl (lv_at hl 1 rfl) ?_
  have ⟨h4, hf⟩ := gd_e hf
  have ⟨x1, w2, h3, hf⟩ := kl_e hf
  refine g_ki0 (g_rV (As := [.int a1]) (rest := []) hx hb hml hown hts hK hR hS (c_M_coins l D cA oc B N a0 a1 w h3) I_M_coins m_1328 mp_52 (gRecv hK hR (ci := 12) rfl h4) rfl rfl (Nat.le_of_ble_eq_true rfl) hl.1 ⟨Nat.le_of_ble_eq_true rfl, Nat.le_of_ble_eq_true rfl⟩ ⟨Nat.le_of_ble_eq_true rfl, Nat.le_of_ble_eq_true rfl⟩ d_M_coinsBehind_2) hS (fun H locs hR hS => ?_)
  refine lv_aload_n hx hb d_M_coinsBehind_5 rfl (lv_at hl 0 rfl) ?_
  have ⟨h5, hf⟩ := gd_e hf
  refine g_getI hx hb hts hown hK hR fl_M_111 (fun _ => rfl) h5 d_M_coinsBehind_6 ?_
  refine g_nI hf (fun x6 hf => ?_)
  refine lv_isub hx hb d_M_coinsBehind_9 ?_
  refine g_nI hf (fun x7 hf => ?_)
  refine lv_istore_n (lv' := [(2, .int x7), (0, .ref (B + a0)), (1, .int a1)]) hx hb d_M_coinsBehind_10 rfl hl (by decide) rfl (fun ls hl => ?_)
  refine lv_iconst (v := 0) hx hb d_M_coinsBehind_11 (by decide) ?_
  refine lv_istore_n (lv' := [(3, .int 0), (2, .int x7), (0, .ref (B + a0)), (1, .int a1)]) hx hb d_M_coinsBehind_12 rfl hl (by decide) rfl (fun ls hl => ?_)
  exact c_M_coinsBehind_l13 C a0 x7 0 w2 (lv_sub hl [2, 1, 0] rfl) hf hR hS
theorem c_M_coinsBehind (l : Launch) (D : va_G) (cA : Nat → ClassId) (oc : gO) (B N : Nat) (a0 : Nat) (a1 : Int32) (w : gW) {wz : gW} {r : Int32} (hf : f_M_coinsBehind N a0 a1 w = some (r, wz)) : Met l y_M_coinsBehind (Cond.code y_M_coinsBehind b_M_coinsBehind 4 (some .int) :: lw_good) ({ frames := 2, cells := 0, slots := 0, locals := 63 } : Room) (gPre D cA oc B [.ref (B + a0), .int a1] w) (gQi D cA B r wz) 0 0 (gA B) := by
  refine Met.ofW (cc := b_M_coinsBehind) (maxL := 4) (ret := (some .int)) (by decide +kernel) rfl ?_
  intro p e s m args below meth c s₁ Bd hml hv
  obtain ⟨hargs, C, hR⟩ := gC.enter (l := l) rfl Bd hml hv
  subst hargs
  have hl := lv_entry ([.ref (B + a0), .int a1]) (n := 4) (Nat.le_of_ble_eq_true rfl)
  rw [lg_entry_eq]
  generalize (lg_sl ([.ref (B + a0), .int a1]) ++ List.replicate (4 - (lg_sl ([.ref (B + a0), .int a1])).length) Slot.unset).toArray = ls at hl ⊢
  have hl : lv_has ls 4 [(0, .ref (B + a0)), (1, .int a1)] := hl
  exact c_M_coinsBehind_b0 C a0 a1 w (lv_sub hl [0, 1] rfl) hf hR va_S.rf
theorem d_M_isBarred_0 : decode b_M_isBarred 0 = .ok (.aload_n 0, 1) := by decide +kernel
theorem d_M_isBarred_1 : decode b_M_isBarred 1 = .ok (.getfield 17, 3) := by decide +kernel
theorem d_M_isBarred_4 : decode b_M_isBarred 4 = .ok (.iload_n 1, 1) := by decide +kernel
theorem d_M_isBarred_5 : decode b_M_isBarred 5 = .ok (.iaload, 1) := by decide +kernel
theorem d_M_isBarred_6 : decode b_M_isBarred 6 = .ok (.iconst 3, 1) := by decide +kernel
theorem d_M_isBarred_7 : decode b_M_isBarred 7 = .ok (.if_icmp .ne 26, 3) := by decide +kernel
theorem d_M_isBarred_10 : decode b_M_isBarred 10 = .ok (.aload_n 0, 1) := by decide +kernel
theorem d_M_isBarred_11 : decode b_M_isBarred 11 = .ok (.getfield 93, 3) := by decide +kernel
theorem d_M_isBarred_14 : decode b_M_isBarred 14 = .ok (.aload_n 0, 1) := by decide +kernel
theorem d_M_isBarred_15 : decode b_M_isBarred 15 = .ok (.getfield 20, 3) := by decide +kernel
theorem d_M_isBarred_18 : decode b_M_isBarred 18 = .ok (.iload_n 1, 1) := by decide +kernel
theorem d_M_isBarred_19 : decode b_M_isBarred 19 = .ok (.iaload, 1) := by decide +kernel
theorem d_M_isBarred_20 : decode b_M_isBarred 20 = .ok (.bipush 6, 2) := by decide +kernel
theorem d_M_isBarred_22 : decode b_M_isBarred 22 = .ok (.irem, 1) := by decide +kernel
theorem d_M_isBarred_23 : decode b_M_isBarred 23 = .ok (.iaload, 1) := by decide +kernel
theorem d_M_isBarred_24 : decode b_M_isBarred 24 = .ok (.ifCond .le 7, 3) := by decide +kernel
theorem d_M_isBarred_27 : decode b_M_isBarred 27 = .ok (.iconst 1, 1) := by decide +kernel
theorem d_M_isBarred_28 : decode b_M_isBarred 28 = .ok (.goto 4, 3) := by decide +kernel
theorem d_M_isBarred_31 : decode b_M_isBarred 31 = .ok (.iconst 0, 1) := by decide +kernel
theorem d_M_isBarred_32 : decode b_M_isBarred 32 = .ok (.ireturn, 1) := by decide +kernel
theorem d_M_isBarred_33 : decode b_M_isBarred 33 = .ok (.aload_n 0, 1) := by decide +kernel
theorem d_M_isBarred_34 : decode b_M_isBarred 34 = .ok (.getfield 17, 3) := by decide +kernel
theorem d_M_isBarred_37 : decode b_M_isBarred 37 = .ok (.iload_n 1, 1) := by decide +kernel
theorem d_M_isBarred_38 : decode b_M_isBarred 38 = .ok (.iaload, 1) := by decide +kernel
theorem d_M_isBarred_39 : decode b_M_isBarred 39 = .ok (.bipush 6, 2) := by decide +kernel
theorem d_M_isBarred_41 : decode b_M_isBarred 41 = .ok (.if_icmp .ne 32, 3) := by decide +kernel
theorem d_M_isBarred_44 : decode b_M_isBarred 44 = .ok (.aload_n 0, 1) := by decide +kernel
theorem d_M_isBarred_45 : decode b_M_isBarred 45 = .ok (.getfield 93, 3) := by decide +kernel
theorem d_M_isBarred_48 : decode b_M_isBarred 48 = .ok (.aload_n 0, 1) := by decide +kernel
theorem d_M_isBarred_49 : decode b_M_isBarred 49 = .ok (.getfield 26, 3) := by decide +kernel
theorem d_M_isBarred_52 : decode b_M_isBarred 52 = .ok (.iconst 4, 1) := by decide +kernel
theorem d_M_isBarred_53 : decode b_M_isBarred 53 = .ok (.iload_n 1, 1) := by decide +kernel
theorem d_M_isBarred_54 : decode b_M_isBarred 54 = .ok (.imul, 1) := by decide +kernel
theorem d_M_isBarred_55 : decode b_M_isBarred 55 = .ok (.aload_n 0, 1) := by decide +kernel
theorem d_M_isBarred_56 : decode b_M_isBarred 56 = .ok (.getfield 23, 3) := by decide +kernel
theorem d_M_isBarred_59 : decode b_M_isBarred 59 = .ok (.iload_n 1, 1) := by decide +kernel
theorem d_M_isBarred_60 : decode b_M_isBarred 60 = .ok (.iaload, 1) := by decide +kernel
theorem d_M_isBarred_61 : decode b_M_isBarred 61 = .ok (.iconst 4, 1) := by decide +kernel
theorem d_M_isBarred_62 : decode b_M_isBarred 62 = .ok (.irem, 1) := by decide +kernel
theorem d_M_isBarred_63 : decode b_M_isBarred 63 = .ok (.iadd, 1) := by decide +kernel
theorem d_M_isBarred_64 : decode b_M_isBarred 64 = .ok (.iaload, 1) := by decide +kernel
theorem d_M_isBarred_65 : decode b_M_isBarred 65 = .ok (.iaload, 1) := by decide +kernel
theorem d_M_isBarred_66 : decode b_M_isBarred 66 = .ok (.ifCond .le 7, 3) := by decide +kernel
theorem d_M_isBarred_69 : decode b_M_isBarred 69 = .ok (.iconst 1, 1) := by decide +kernel
theorem d_M_isBarred_70 : decode b_M_isBarred 70 = .ok (.goto 4, 3) := by decide +kernel
theorem d_M_isBarred_73 : decode b_M_isBarred 73 = .ok (.iconst 0, 1) := by decide +kernel
theorem d_M_isBarred_74 : decode b_M_isBarred 74 = .ok (.ireturn, 1) := by decide +kernel
set_option maxRecDepth 20000 in
theorem c_M_isBarred_b0 {r : Int32} {wz : gW} (C : gC p s m args meth c "RidCoppersModel" b_M_isBarred 2 (some .boolean) D cA oc B) (a0 : Nat) (a1 : Int32) (w : gW) {ls : Array Slot} {H : Heap} {locs : List Loc} (hl : lv_has ls 2 [(0, .ref (B + a0)), (1, .int a1)]) (hf : f_M_isBarred_b0 N a0 a1 w = some (r, wz)) (hR : gRep D cA B w H) (hS : va_S (gA B) s.heap H locs) : W p l e ({ frames := 1, cells := 0, slots := 0, locals := 40 } : Room) s m args below meth c H locs 0 0 (MQ below (gQi D cA B r wz) args s 0 0 (gA B)) (F0 m 0 ls []) := by
  obtain ⟨hx, hb, hml, hown, hts, hr, hlocks, hK, hBs⟩ := id C
  unfold f_M_isBarred_b0 at hf
  refine lv_aload_n hx hb d_M_isBarred_0 rfl (lv_at hl 0 rfl) ?_
  have ⟨h1, hf⟩ := gd_e hf
  have ⟨x2, h3, hf⟩ := rr_e hf
  refine g_getR hx hb hts hown hK hR fl_M_17 (fun _ => rfl) h1 h3 d_M_isBarred_1 ?_
  refine lv_iload_n hx hb d_M_isBarred_4 rfl (lv_at hl 1 rfl) ?_
  have ⟨h4, hf⟩ := gd_e hf
  have ⟨h5, hf⟩ := gd_e hf
  refine g_iald hx hb hK hR h4 h5 d_M_isBarred_5 ?_
  refine g_nI hf (fun x6 hf => ?_)
  refine lv_iconst (v := 3) hx hb d_M_isBarred_6 (by decide) ?_
  refine lv_icmp_ne (tgt := 33) hx hb d_M_isBarred_7 (by decide) (fun hc => ?_) (fun hc => ?_)
  · have hf := cd_f hc hf
    refine lv_aload_n hx hb d_M_isBarred_33 rfl (lv_at hl 0 rfl) ?_
    refine g_getR hx hb hts hown hK hR fl_M_17 (fun _ => rfl) h1 h3 d_M_isBarred_34 ?_
    refine lv_iload_n hx hb d_M_isBarred_37 rfl (lv_at hl 1 rfl) ?_
    refine g_iald hx hb hK hR h4 h5 d_M_isBarred_38 ?_
    refine g_nI hf (fun x7 hf => ?_)
    refine lv_bipush (v := 6) hx hb d_M_isBarred_39 (by decide) ?_
    refine lv_icmp_ne (tgt := 73) hx hb d_M_isBarred_41 (by decide) (fun hc => ?_) (fun hc => ?_)
    · have hf := cd_f hc hf
      refine lv_iconst (v := 0) hx hb d_M_isBarred_73 (by decide) ?_
      exact g_iret hx hb hr hlocks hR hS hf rfl d_M_isBarred_74
    have hf := cd_t hc hf
    refine lv_aload_n hx hb d_M_isBarred_44 rfl (lv_at hl 0 rfl) ?_
    have ⟨x8, h9, hf⟩ := rr_e hf
    refine g_getR hx hb hts hown hK hR fl_M_93 (fun _ => rfl) h1 h9 d_M_isBarred_45 ?_
    refine lv_aload_n hx hb d_M_isBarred_48 rfl (lv_at hl 0 rfl) ?_
    have ⟨x10, h11, hf⟩ := rr_e hf
    refine g_getR hx hb hts hown hK hR fl_M_26 (fun _ => rfl) h1 h11 d_M_isBarred_49 ?_
    refine lv_iconst (v := 4) hx hb d_M_isBarred_52 (by decide) ?_
    refine lv_iload_n hx hb d_M_isBarred_53 rfl (lv_at hl 1 rfl) ?_
    refine lv_imul hx hb d_M_isBarred_54 ?_
    refine g_nI hf (fun x12 hf => ?_)
    refine lv_aload_n hx hb d_M_isBarred_55 rfl (lv_at hl 0 rfl) ?_
    have ⟨x13, h14, hf⟩ := rr_e hf
    refine g_getR hx hb hts hown hK hR fl_M_23 (fun _ => rfl) h1 h14 d_M_isBarred_56 ?_
    refine lv_iload_n hx hb d_M_isBarred_59 rfl (lv_at hl 1 rfl) ?_
    have ⟨h15, hf⟩ := gd_e hf
    have ⟨h16, hf⟩ := gd_e hf
    refine g_iald hx hb hK hR h15 h16 d_M_isBarred_60 ?_
    refine g_nI hf (fun x17 hf => ?_)
    refine lv_iconst (v := 4) hx hb d_M_isBarred_61 (by decide) ?_
    refine lv_irem hx hb d_M_isBarred_62 (by decide) ?_
    refine g_nI hf (fun x18 hf => ?_)
    refine lv_iadd hx hb d_M_isBarred_63 ?_
    refine g_nI hf (fun x19 hf => ?_)
    have ⟨h20, hf⟩ := gd_e hf
    have ⟨h21, hf⟩ := gd_e hf
    refine g_iald hx hb hK hR h20 h21 d_M_isBarred_64 ?_
    refine g_nI hf (fun x22 hf => ?_)
    have ⟨h23, hf⟩ := gd_e hf
    have ⟨h24, hf⟩ := gd_e hf
    refine g_iald hx hb hK hR h23 h24 d_M_isBarred_65 ?_
    refine g_nI hf (fun x25 hf => ?_)
    refine lv_if_le (tgt := 73) hx hb d_M_isBarred_66 (by decide) (fun hc => ?_) (fun hc => ?_)
    · have hf := cd_t hc hf
      refine lv_iconst (v := 0) hx hb d_M_isBarred_73 (by decide) ?_
      exact g_iret hx hb hr hlocks hR hS hf rfl d_M_isBarred_74
    have hf := cd_f hc hf
    refine lv_iconst (v := 1) hx hb d_M_isBarred_69 (by decide) ?_
    refine lv_goto (tgt := 74) hx hb d_M_isBarred_70 (by decide) ?_
    exact g_iret hx hb hr hlocks hR hS hf rfl d_M_isBarred_74
  have hf := cd_t hc hf
  refine lv_aload_n hx hb d_M_isBarred_10 rfl (lv_at hl 0 rfl) ?_
  have ⟨x26, h27, hf⟩ := rr_e hf
  refine g_getR hx hb hts hown hK hR fl_M_93 (fun _ => rfl) h1 h27 d_M_isBarred_11 ?_
  refine lv_aload_n hx hb d_M_isBarred_14 rfl (lv_at hl 0 rfl) ?_
  have ⟨x28, h29, hf⟩ := rr_e hf
  refine g_getR hx hb hts hown hK hR fl_M_20 (fun _ => rfl) h1 h29 d_M_isBarred_15 ?_
  refine lv_iload_n hx hb d_M_isBarred_18 rfl (lv_at hl 1 rfl) ?_
  have ⟨h30, hf⟩ := gd_e hf
  have ⟨h31, hf⟩ := gd_e hf
  refine g_iald hx hb hK hR h30 h31 d_M_isBarred_19 ?_
  refine g_nI hf (fun x32 hf => ?_)
  refine lv_bipush (v := 6) hx hb d_M_isBarred_20 (by decide) ?_
  refine lv_irem hx hb d_M_isBarred_22 (by decide) ?_
  refine g_nI hf (fun x33 hf => ?_)
  have ⟨h34, hf⟩ := gd_e hf
  have ⟨h35, hf⟩ := gd_e hf
  refine g_iald hx hb hK hR h34 h35 d_M_isBarred_23 ?_
  refine g_nI hf (fun x36 hf => ?_)
  refine lv_if_le (tgt := 31) hx hb d_M_isBarred_24 (by decide) (fun hc => ?_) (fun hc => ?_)
  · have hf := cd_t hc hf
    refine lv_iconst (v := 0) hx hb d_M_isBarred_31 (by decide) ?_
    exact g_iret hx hb hr hlocks hR hS hf rfl d_M_isBarred_32
  have hf := cd_f hc hf
  refine lv_iconst (v := 1) hx hb d_M_isBarred_27 (by decide) ?_
  refine lv_goto (tgt := 32) hx hb d_M_isBarred_28 (by decide) ?_
  exact g_iret hx hb hr hlocks hR hS hf rfl d_M_isBarred_32
theorem c_M_isBarred (l : Launch) (D : va_G) (cA : Nat → ClassId) (oc : gO) (B N : Nat) (a0 : Nat) (a1 : Int32) (w : gW) {wz : gW} {r : Int32} (hf : f_M_isBarred N a0 a1 w = some (r, wz)) : Met l y_M_isBarred (Cond.code y_M_isBarred b_M_isBarred 2 (some .boolean) :: lw_good) ({ frames := 1, cells := 0, slots := 0, locals := 40 } : Room) (gPre D cA oc B [.ref (B + a0), .int a1] w) (gQi D cA B r wz) 0 0 (gA B) := by
  refine Met.ofW (cc := b_M_isBarred) (maxL := 2) (ret := (some .boolean)) (by decide +kernel) rfl ?_
  intro p e s m args below meth c s₁ Bd hml hv
  obtain ⟨hargs, C, hR⟩ := gC.enter (l := l) rfl Bd hml hv
  subst hargs
  have hl := lv_entry ([.ref (B + a0), .int a1]) (n := 2) (Nat.le_of_ble_eq_true rfl)
  rw [lg_entry_eq]
  generalize (lg_sl ([.ref (B + a0), .int a1]) ++ List.replicate (2 - (lg_sl ([.ref (B + a0), .int a1])).length) Slot.unset).toArray = ls at hl ⊢
  have hl : lv_has ls 2 [(0, .ref (B + a0)), (1, .int a1)] := hl
  exact c_M_isBarred_b0 C a0 a1 w (lv_sub hl [0, 1] rfl) hf hR va_S.rf
theorem d_M_badness_0 : decode b_M_badness 0 = .ok (.aload_n 0, 1) := by decide +kernel
theorem d_M_badness_1 : decode b_M_badness 1 = .ok (.getfield 17, 3) := by decide +kernel
theorem d_M_badness_4 : decode b_M_badness 4 = .ok (.iload_n 1, 1) := by decide +kernel
theorem d_M_badness_5 : decode b_M_badness 5 = .ok (.iaload, 1) := by decide +kernel
theorem d_M_badness_6 : decode b_M_badness 6 = .ok (.tableswitch 64 2 5 #[30, 64, 44, 50], 30) := by decide +kernel
theorem d_M_badness_36 : decode b_M_badness 36 = .ok (.sipush 1000, 3) := by decide +kernel
theorem d_M_badness_39 : decode b_M_badness 39 = .ok (.aload_n 0, 1) := by decide +kernel
theorem d_M_badness_40 : decode b_M_badness 40 = .ok (.getfield 111, 3) := by decide +kernel
theorem d_M_badness_43 : decode b_M_badness 43 = .ok (.imul, 1) := by decide +kernel
theorem d_M_badness_44 : decode b_M_badness 44 = .ok (.aload_n 0, 1) := by decide +kernel
theorem d_M_badness_45 : decode b_M_badness 45 = .ok (.getfield 108, 3) := by decide +kernel
theorem d_M_badness_48 : decode b_M_badness 48 = .ok (.iadd, 1) := by decide +kernel
theorem d_M_badness_49 : decode b_M_badness 49 = .ok (.ireturn, 1) := by decide +kernel
theorem d_M_badness_50 : decode b_M_badness 50 = .ok (.aload_n 0, 1) := by decide +kernel
theorem d_M_badness_51 : decode b_M_badness 51 = .ok (.iload_n 1, 1) := by decide +kernel
theorem d_M_badness_52 : decode b_M_badness 52 = .ok (.invokevirtual 324, 3) := by decide +kernel
theorem d_M_badness_55 : decode b_M_badness 55 = .ok (.ireturn, 1) := by decide +kernel
theorem d_M_badness_56 : decode b_M_badness 56 = .ok (.sipush 1000, 3) := by decide +kernel
theorem d_M_badness_59 : decode b_M_badness 59 = .ok (.aload_n 0, 1) := by decide +kernel
theorem d_M_badness_60 : decode b_M_badness 60 = .ok (.getfield 111, 3) := by decide +kernel
theorem d_M_badness_63 : decode b_M_badness 63 = .ok (.imul, 1) := by decide +kernel
theorem d_M_badness_64 : decode b_M_badness 64 = .ok (.aload_n 0, 1) := by decide +kernel
theorem d_M_badness_65 : decode b_M_badness 65 = .ok (.getfield 108, 3) := by decide +kernel
theorem d_M_badness_68 : decode b_M_badness 68 = .ok (.isub, 1) := by decide +kernel
theorem d_M_badness_69 : decode b_M_badness 69 = .ok (.ireturn, 1) := by decide +kernel
theorem d_M_badness_70 : decode b_M_badness 70 = .ok (.bipush 100, 2) := by decide +kernel
theorem d_M_badness_72 : decode b_M_badness 72 = .ok (.aload_n 0, 1) := by decide +kernel
theorem d_M_badness_73 : decode b_M_badness 73 = .ok (.getfield 108, 3) := by decide +kernel
theorem d_M_badness_76 : decode b_M_badness 76 = .ok (.imul, 1) := by decide +kernel
theorem d_M_badness_77 : decode b_M_badness 77 = .ok (.aload_n 0, 1) := by decide +kernel
theorem d_M_badness_78 : decode b_M_badness 78 = .ok (.getfield 111, 3) := by decide +kernel
theorem d_M_badness_81 : decode b_M_badness 81 = .ok (.iadd, 1) := by decide +kernel
theorem d_M_badness_82 : decode b_M_badness 82 = .ok (.ireturn, 1) := by decide +kernel
set_option maxRecDepth 20000 in
theorem c_M_badness_b70 {r : Int32} {wz : gW} (C : gC p s m args meth c "RidCoppersModel" b_M_badness 2 (some .int) D cA oc B) (a0 : Nat) (w : gW) {ls : Array Slot} {H : Heap} {locs : List Loc} (hl : lv_has ls 2 [(0, .ref (B + a0))]) (hf : f_M_badness_b70 N a0 w = some (r, wz)) (hR : gRep D cA B w H) (hS : va_S (gA B) s.heap H locs) : W p l e ({ frames := 2, cells := 0, slots := 0, locals := 63 } : Room) s m args below meth c H locs 0 0 (MQ below (gQi D cA B r wz) args s 0 0 (gA B)) (F0 m 70 ls []) := by
  obtain ⟨hx, hb, hml, hown, hts, hr, hlocks, hK, hBs⟩ := id C
  unfold f_M_badness_b70 at hf
  refine lv_bipush (v := 100) hx hb d_M_badness_70 (by decide) ?_
  refine lv_aload_n hx hb d_M_badness_72 rfl (lv_at hl 0 rfl) ?_
  have ⟨h21, hf⟩ := gd_e hf
  refine g_getI hx hb hts hown hK hR fl_M_108 (fun _ => rfl) h21 d_M_badness_73 ?_
  refine g_nI hf (fun x22 hf => ?_)
  refine lv_imul hx hb d_M_badness_76 ?_
  refine g_nI hf (fun x23 hf => ?_)
  refine lv_aload_n hx hb d_M_badness_77 rfl (lv_at hl 0 rfl) ?_
  refine g_getI hx hb hts hown hK hR fl_M_111 (fun _ => rfl) h21 d_M_badness_78 ?_
  refine g_nI hf (fun x24 hf => ?_)
  refine lv_iadd hx hb d_M_badness_81 ?_
  refine g_nI hf (fun x25 hf => ?_)
  exact g_iret hx hb hr hlocks hR hS hf rfl d_M_badness_82
set_option maxRecDepth 20000 in
theorem c_M_badness_b0 {r : Int32} {wz : gW} (C : gC p s m args meth c "RidCoppersModel" b_M_badness 2 (some .int) D cA oc B) (a0 : Nat) (a1 : Int32) (w : gW) {ls : Array Slot} {H : Heap} {locs : List Loc} (hl : lv_has ls 2 [(0, .ref (B + a0)), (1, .int a1)]) (hf : f_M_badness_b0 N a0 a1 w = some (r, wz)) (hR : gRep D cA B w H) (hS : va_S (gA B) s.heap H locs) : W p l e ({ frames := 2, cells := 0, slots := 0, locals := 63 } : Room) s m args below meth c H locs 0 0 (MQ below (gQi D cA B r wz) args s 0 0 (gA B)) (F0 m 0 ls []) := by
  obtain ⟨hx, hb, hml, hown, hts, hr, hlocks, hK, hBs⟩ := id C
  unfold f_M_badness_b0 at hf
  refine lv_aload_n hx hb d_M_badness_0 rfl (lv_at hl 0 rfl) ?_
  have ⟨h1, hf⟩ := gd_e hf
  have ⟨x2, h3, hf⟩ := rr_e hf
  refine g_getR hx hb hts hown hK hR fl_M_17 (fun _ => rfl) h1 h3 d_M_badness_1 ?_
  refine lv_iload_n hx hb d_M_badness_4 rfl (lv_at hl 1 rfl) ?_
  have ⟨h4, hf⟩ := gd_e hf
  have ⟨h5, hf⟩ := gd_e hf
  refine g_iald hx hb hK hR h4 h5 d_M_badness_5 ?_
  refine g_nI hf (fun x6 hf => ?_)
  by_cases hc7 : x6 = 2
  · refine lv_tableIn (off := 30) (tgt := 36) hx hb d_M_badness_6 (by rw [hc7]; decide) (by rw [hc7]; decide) (by rw [hc7]; rfl) (by decide) ?_
    have hf := cd_t hc7 hf
    refine lv_sipush (v := 1000) hx hb d_M_badness_36 (by decide) ?_
    refine lv_aload_n hx hb d_M_badness_39 rfl (lv_at hl 0 rfl) ?_
    refine g_getI hx hb hts hown hK hR fl_M_111 (fun _ => rfl) h1 d_M_badness_40 ?_
    refine g_nI hf (fun x8 hf => ?_)
    refine lv_imul hx hb d_M_badness_43 ?_
    refine g_nI hf (fun x9 hf => ?_)
    refine lv_aload_n hx hb d_M_badness_44 rfl (lv_at hl 0 rfl) ?_
    refine g_getI hx hb hts hown hK hR fl_M_108 (fun _ => rfl) h1 d_M_badness_45 ?_
    refine g_nI hf (fun x10 hf => ?_)
    refine lv_iadd hx hb d_M_badness_48 ?_
    refine g_nI hf (fun x11 hf => ?_)
    exact g_iret hx hb hr hlocks hR hS hf rfl d_M_badness_49
  have hf := cd_f hc7 hf
  by_cases hc12 : x6 = 4
  · refine lv_tableIn (off := 44) (tgt := 50) hx hb d_M_badness_6 (by rw [hc12]; decide) (by rw [hc12]; decide) (by rw [hc12]; rfl) (by decide) ?_
    have hf := cd_t hc12 hf
    refine lv_aload_n hx hb d_M_badness_50 rfl (lv_at hl 0 rfl) ?_
    refine lv_iload_n hx hb d_M_badness_51 rfl (lv_at hl 1 rfl) ?_
    have ⟨x13, w14, h15, hf⟩ := kl_e hf
    refine g_ki0 (g_rV (As := [.int a1]) (rest := []) hx hb hml hown hts hK hR hS (c_M_weightBehind l D cA oc B N a0 a1 w h15) I_M_weightBehind m_1376 mp_62 (gRecv hK hR (ci := 12) rfl h1) rfl rfl (Nat.le_of_ble_eq_true rfl) hl.1 ⟨Nat.le_of_ble_eq_true rfl, Nat.le_of_ble_eq_true rfl⟩ ⟨Nat.le_of_ble_eq_true rfl, Nat.le_of_ble_eq_true rfl⟩ d_M_badness_52) hS (fun H locs hR hS => ?_)
    exact g_iret hx hb hr hlocks hR hS hf rfl d_M_badness_55
  have hf := cd_f hc12 hf
  by_cases hc16 : x6 = 5
  · refine lv_tableIn (off := 50) (tgt := 56) hx hb d_M_badness_6 (by rw [hc16]; decide) (by rw [hc16]; decide) (by rw [hc16]; rfl) (by decide) ?_
    have hf := cd_t hc16 hf
    refine lv_sipush (v := 1000) hx hb d_M_badness_56 (by decide) ?_
    refine lv_aload_n hx hb d_M_badness_59 rfl (lv_at hl 0 rfl) ?_
    refine g_getI hx hb hts hown hK hR fl_M_111 (fun _ => rfl) h1 d_M_badness_60 ?_
    refine g_nI hf (fun x17 hf => ?_)
    refine lv_imul hx hb d_M_badness_63 ?_
    refine g_nI hf (fun x18 hf => ?_)
    refine lv_aload_n hx hb d_M_badness_64 rfl (lv_at hl 0 rfl) ?_
    refine g_getI hx hb hts hown hK hR fl_M_108 (fun _ => rfl) h1 d_M_badness_65 ?_
    refine g_nI hf (fun x19 hf => ?_)
    refine lv_isub hx hb d_M_badness_68 ?_
    refine g_nI hf (fun x20 hf => ?_)
    exact g_iret hx hb hr hlocks hR hS hf rfl d_M_badness_69
  have hf := cd_f hc16 hf
  by_cases hcm : x6 = 3
  · refine lv_tableIn (off := 64) (tgt := 70) hx hb d_M_badness_6 (by rw [hcm]; decide) (by rw [hcm]; decide) (by rw [hcm]; rfl) (by decide) ?_
    exact c_M_badness_b70 C a0 w (lv_sub hl [0] rfl) hf hR hS
  have hcm3 := hcm
  have hout : x6.toInt < 2 ∨ 5 < x6.toInt := by
    have := lv_neT (a := 2) hc7 rfl
    have := lv_neT (a := 4) hc12 rfl
    have := lv_neT (a := 5) hc16 rfl
    have := lv_neT (a := 3) hcm3 rfl
    omega
  refine lv_tableOut (tgt := 70) hx hb d_M_badness_6 hout (by decide) ?_
  exact c_M_badness_b70 C a0 w (lv_sub hl [0] rfl) hf hR hS
theorem c_M_badness (l : Launch) (D : va_G) (cA : Nat → ClassId) (oc : gO) (B N : Nat) (a0 : Nat) (a1 : Int32) (w : gW) {wz : gW} {r : Int32} (hf : f_M_badness N a0 a1 w = some (r, wz)) : Met l y_M_badness (Cond.code y_M_badness b_M_badness 2 (some .int) :: lw_good) ({ frames := 2, cells := 0, slots := 0, locals := 63 } : Room) (gPre D cA oc B [.ref (B + a0), .int a1] w) (gQi D cA B r wz) 0 0 (gA B) := by
  refine Met.ofW (cc := b_M_badness) (maxL := 2) (ret := (some .int)) (by decide +kernel) rfl ?_
  intro p e s m args below meth c s₁ Bd hml hv
  obtain ⟨hargs, C, hR⟩ := gC.enter (l := l) rfl Bd hml hv
  subst hargs
  have hl := lv_entry ([.ref (B + a0), .int a1]) (n := 2) (Nat.le_of_ble_eq_true rfl)
  rw [lg_entry_eq]
  generalize (lg_sl ([.ref (B + a0), .int a1]) ++ List.replicate (2 - (lg_sl ([.ref (B + a0), .int a1])).length) Slot.unset).toArray = ls at hl ⊢
  have hl : lv_has ls 2 [(0, .ref (B + a0)), (1, .int a1)] := hl
  exact c_M_badness_b0 C a0 a1 w (lv_sub hl [0, 1] rfl) hf hR va_S.rf
theorem d_M_layBest_0 : decode b_M_layBest 0 = .ok (.iconst 0, 1) := by decide +kernel
theorem d_M_layBest_1 : decode b_M_layBest 1 = .ok (.istore_n 1, 1) := by decide +kernel
theorem d_M_layBest_2 : decode b_M_layBest 2 = .ok (.iload_n 1, 1) := by decide +kernel
theorem d_M_layBest_3 : decode b_M_layBest 3 = .ok (.bipush 6, 2) := by decide +kernel
theorem d_M_layBest_5 : decode b_M_layBest 5 = .ok (.if_icmp .ge 33, 3) := by decide +kernel
theorem d_M_layBest_8 : decode b_M_layBest 8 = .ok (.aload_n 0, 1) := by decide +kernel
theorem d_M_layBest_9 : decode b_M_layBest 9 = .ok (.getfield 102, 3) := by decide +kernel
theorem d_M_layBest_12 : decode b_M_layBest 12 = .ok (.iload_n 1, 1) := by decide +kernel
theorem d_M_layBest_13 : decode b_M_layBest 13 = .ok (.aload_n 0, 1) := by decide +kernel
theorem d_M_layBest_14 : decode b_M_layBest 14 = .ok (.getfield 93, 3) := by decide +kernel
theorem d_M_layBest_17 : decode b_M_layBest 17 = .ok (.iload_n 1, 1) := by decide +kernel
theorem d_M_layBest_18 : decode b_M_layBest 18 = .ok (.iaload, 1) := by decide +kernel
theorem d_M_layBest_19 : decode b_M_layBest 19 = .ok (.iastore, 1) := by decide +kernel
theorem d_M_layBest_20 : decode b_M_layBest 20 = .ok (.aload_n 0, 1) := by decide +kernel
theorem d_M_layBest_21 : decode b_M_layBest 21 = .ok (.getfield 105, 3) := by decide +kernel
theorem d_M_layBest_24 : decode b_M_layBest 24 = .ok (.iload_n 1, 1) := by decide +kernel
theorem d_M_layBest_25 : decode b_M_layBest 25 = .ok (.aload_n 0, 1) := by decide +kernel
theorem d_M_layBest_26 : decode b_M_layBest 26 = .ok (.getfield 96, 3) := by decide +kernel
theorem d_M_layBest_29 : decode b_M_layBest 29 = .ok (.iload_n 1, 1) := by decide +kernel
theorem d_M_layBest_30 : decode b_M_layBest 30 = .ok (.iaload, 1) := by decide +kernel
theorem d_M_layBest_31 : decode b_M_layBest 31 = .ok (.iastore, 1) := by decide +kernel
theorem d_M_layBest_32 : decode b_M_layBest 32 = .ok (.iinc 1 1, 3) := by decide +kernel
theorem d_M_layBest_35 : decode b_M_layBest 35 = .ok (.goto (-33), 3) := by decide +kernel
theorem d_M_layBest_38 : decode b_M_layBest 38 = .ok (.return_, 1) := by decide +kernel
set_option maxRecDepth 20000 in
theorem c_M_layBest_b2 {r : Unit} {wz : gW} {rec2 : Nat × Int32 × gW → Option (Unit × gW)} (ih2 : ∀ (a0 : Nat) (a1 : Int32) (w : gW) (ls : Array Slot) (H : Heap) (locs : List Loc), rec2 (a0, a1, w) = some (r, wz) → lv_has ls 2 [(0, .ref (B + a0)), (1, .int a1)] → gRep D cA B w H → va_S (gA B) s.heap H locs → W p l e ({ frames := 1, cells := 0, slots := 0, locals := 40 } : Room) s m args below meth c H locs 0 0 (MQ below (gQv D cA B r wz) args s 0 0 (gA B)) (F0 m 2 ls [])) (C : gC p s m args meth c "RidCoppersModel" b_M_layBest 2 none D cA oc B) (a0 : Nat) (a1 : Int32) (w : gW) {ls : Array Slot} {H : Heap} {locs : List Loc} (hl : lv_has ls 2 [(0, .ref (B + a0)), (1, .int a1)]) (hf : f_M_layBest_b2 N rec2 a0 a1 w = some (r, wz)) (hR : gRep D cA B w H) (hS : va_S (gA B) s.heap H locs) : W p l e ({ frames := 1, cells := 0, slots := 0, locals := 40 } : Room) s m args below meth c H locs 0 0 (MQ below (gQv D cA B r wz) args s 0 0 (gA B)) (F0 m 2 ls []) := by
  obtain ⟨hx, hb, hml, hown, hts, hr, hlocks, hK, hBs⟩ := id C
  unfold f_M_layBest_b2 at hf
  refine lv_iload_n hx hb d_M_layBest_2 rfl (lv_at hl 1 rfl) ?_
  refine lv_bipush (v := 6) hx hb d_M_layBest_3 (by decide) ?_
  refine lv_icmp_ge (tgt := 38) hx hb d_M_layBest_5 (by decide) (fun hc => ?_) (fun hc => ?_)
  · have hf := cd_t hc hf
    exact g_vret hx hb hr hlocks hR hS hf d_M_layBest_38
  have hf := cd_f hc hf
  refine lv_aload_n hx hb d_M_layBest_8 rfl (lv_at hl 0 rfl) ?_
  have ⟨h1, hf⟩ := gd_e hf
  have ⟨x2, h3, hf⟩ := rr_e hf
  refine g_getR hx hb hts hown hK hR fl_M_102 (fun _ => rfl) h1 h3 d_M_layBest_9 ?_
  refine lv_iload_n hx hb d_M_layBest_12 rfl (lv_at hl 1 rfl) ?_
  refine lv_aload_n hx hb d_M_layBest_13 rfl (lv_at hl 0 rfl) ?_
  have ⟨x4, h5, hf⟩ := rr_e hf
  refine g_getR hx hb hts hown hK hR fl_M_93 (fun _ => rfl) h1 h5 d_M_layBest_14 ?_
  refine lv_iload_n hx hb d_M_layBest_17 rfl (lv_at hl 1 rfl) ?_
  have ⟨h6, hf⟩ := gd_e hf
  have ⟨h7, hf⟩ := gd_e hf
  refine g_iald hx hb hK hR h6 h7 d_M_layBest_18 ?_
  refine g_nI hf (fun x8 hf => ?_)
  have ⟨h9, hf⟩ := gd_e hf
  have ⟨h10, hf⟩ := gd_e hf
  refine g_iast hx hb hK hR hS h9 h10 d_M_layBest_19 (fun H locs hR hS => ?_)
  refine g_nW hf hR (fun w11 hf hR => ?_)
  refine lv_aload_n hx hb d_M_layBest_20 rfl (lv_at hl 0 rfl) ?_
  have ⟨h12, hf⟩ := gd_e hf
  have ⟨x13, h14, hf⟩ := rr_e hf
  refine g_getR hx hb hts hown hK hR fl_M_105 (fun _ => rfl) h12 h14 d_M_layBest_21 ?_
  refine lv_iload_n hx hb d_M_layBest_24 rfl (lv_at hl 1 rfl) ?_
  refine lv_aload_n hx hb d_M_layBest_25 rfl (lv_at hl 0 rfl) ?_
  have ⟨x15, h16, hf⟩ := rr_e hf
  refine g_getR hx hb hts hown hK hR fl_M_96 (fun _ => rfl) h12 h16 d_M_layBest_26 ?_
  refine lv_iload_n hx hb d_M_layBest_29 rfl (lv_at hl 1 rfl) ?_
  have ⟨h17, hf⟩ := gd_e hf
  have ⟨h18, hf⟩ := gd_e hf
  refine g_iald hx hb hK hR h17 h18 d_M_layBest_30 ?_
  refine g_nI hf (fun x19 hf => ?_)
  have ⟨h20, hf⟩ := gd_e hf
  have ⟨h21, hf⟩ := gd_e hf
  refine g_iast hx hb hK hR hS h20 h21 d_M_layBest_31 (fun H locs hR hS => ?_)
  refine g_nW hf hR (fun w22 hf hR => ?_)
  refine g_iinc (lv' := fun x23 => [(1, .int x23), (0, .ref (B + a0))]) hf hx hb d_M_layBest_32 hl (k := 1) rfl (by decide) (by decide) (fun _ => rfl) (fun x23 ls hf hl => ?_)
  refine lv_goto (tgt := 2) hx hb d_M_layBest_35 (by decide) ?_
  exact ih2 a0 x23 w22 _ _ _ hf (lv_sub hl [1, 0] rfl) hR hS
theorem c_M_layBest_l2 {r : Unit} {wz : gW} (C : gC p s m args meth c "RidCoppersModel" b_M_layBest 2 none D cA oc B) (a0 : Nat) (a1 : Int32) (w : gW) {ls : Array Slot} {H : Heap} {locs : List Loc} (hl : lv_has ls 2 [(0, .ref (B + a0)), (1, .int a1)]) (hf : f_M_layBest_l2 N a0 a1 w = some (r, wz)) (hR : gRep D cA B w H) (hS : va_S (gA B) s.heap H locs) : W p l e ({ frames := 1, cells := 0, slots := 0, locals := 40 } : Room) s m args below meth c H locs 0 0 (MQ below (gQv D cA B r wz) args s 0 0 (gA B)) (F0 m 2 ls []) := by
  unfold f_M_layBest_l2 at hf
  suffices hh : ∀ n : Nat, ∀ (a0 : Nat) (a1 : Int32) (w : gW) (ls : Array Slot) (H : Heap) (locs : List Loc), itr (fun rec (q : Nat × Int32 × gW) => f_M_layBest_b2 N rec q.1 q.2.1 q.2.2) n (a0, a1, w) = some (r, wz) → lv_has ls 2 [(0, .ref (B + a0)), (1, .int a1)] → gRep D cA B w H → va_S (gA B) s.heap H locs → W p l e ({ frames := 1, cells := 0, slots := 0, locals := 40 } : Room) s m args below meth c H locs 0 0 (MQ below (gQv D cA B r wz) args s 0 0 (gA B)) (F0 m 2 ls []) from hh N a0 a1 w ls H locs hf hl hR hS
  intro n
  induction n with
  | zero => intro a0 a1 w ls H locs hf; cases hf
  | succ n ihn =>
    intro a0 a1 w ls H locs hf hl hR hS
    exact c_M_layBest_b2 (N := N) ihn C a0 a1 w hl ((itr_s _ _ _).symm.trans hf) hR hS
set_option maxRecDepth 20000 in
theorem c_M_layBest_b0 {r : Unit} {wz : gW} (C : gC p s m args meth c "RidCoppersModel" b_M_layBest 2 none D cA oc B) (a0 : Nat) (w : gW) {ls : Array Slot} {H : Heap} {locs : List Loc} (hl : lv_has ls 2 [(0, .ref (B + a0))]) (hf : f_M_layBest_b0 N a0 w = some (r, wz)) (hR : gRep D cA B w H) (hS : va_S (gA B) s.heap H locs) : W p l e ({ frames := 1, cells := 0, slots := 0, locals := 40 } : Room) s m args below meth c H locs 0 0 (MQ below (gQv D cA B r wz) args s 0 0 (gA B)) (F0 m 0 ls []) := by
  obtain ⟨hx, hb, hml, hown, hts, hr, hlocks, hK, hBs⟩ := id C
  unfold f_M_layBest_b0 at hf
  refine lv_iconst (v := 0) hx hb d_M_layBest_0 (by decide) ?_
  refine lv_istore_n (lv' := [(1, .int 0), (0, .ref (B + a0))]) hx hb d_M_layBest_1 rfl hl (by decide) rfl (fun ls hl => ?_)
  exact c_M_layBest_l2 C a0 0 w (lv_sub hl [1, 0] rfl) hf hR hS
theorem c_M_layBest (l : Launch) (D : va_G) (cA : Nat → ClassId) (oc : gO) (B N : Nat) (a0 : Nat) (w : gW) {wz : gW} {r : Unit} (hf : f_M_layBest N a0 w = some (r, wz)) : Met l y_M_layBest (Cond.code y_M_layBest b_M_layBest 2 none :: lw_good) ({ frames := 1, cells := 0, slots := 0, locals := 40 } : Room) (gPre D cA oc B [.ref (B + a0)] w) (gQv D cA B r wz) 0 0 (gA B) := by
  refine Met.ofW (cc := b_M_layBest) (maxL := 2) (ret := none) (by decide +kernel) rfl ?_
  intro p e s m args below meth c s₁ Bd hml hv
  obtain ⟨hargs, C, hR⟩ := gC.enter (l := l) rfl Bd hml hv
  subst hargs
  have hl := lv_entry ([.ref (B + a0)]) (n := 2) (Nat.le_of_ble_eq_true rfl)
  rw [lg_entry_eq]
  generalize (lg_sl ([.ref (B + a0)]) ++ List.replicate (2 - (lg_sl ([.ref (B + a0)])).length) Slot.unset).toArray = ls at hl ⊢
  have hl : lv_has ls 2 [(0, .ref (B + a0))] := hl
  exact c_M_layBest_b0 C a0 w (lv_sub hl [0] rfl) hf hR va_S.rf
theorem d_M_chooses_0 : decode b_M_chooses 0 = .ok (.aload_n 0, 1) := by decide +kernel
theorem d_M_chooses_1 : decode b_M_chooses 1 = .ok (.iload_n 1, 1) := by decide +kernel
theorem d_M_chooses_2 : decode b_M_chooses 2 = .ok (.invokevirtual 327, 3) := by decide +kernel
theorem d_M_chooses_5 : decode b_M_chooses 5 = .ok (.iconst 0, 1) := by decide +kernel
theorem d_M_chooses_6 : decode b_M_chooses 6 = .ok (.istore_n 3, 1) := by decide +kernel
theorem d_M_chooses_7 : decode b_M_chooses 7 = .ok (.iconst 0, 1) := by decide +kernel
theorem d_M_chooses_8 : decode b_M_chooses 8 = .ok (.istore 4, 2) := by decide +kernel
theorem d_M_chooses_10 : decode b_M_chooses 10 = .ok (.iconst 1, 1) := by decide +kernel
theorem d_M_chooses_11 : decode b_M_chooses 11 = .ok (.istore 5, 2) := by decide +kernel
theorem d_M_chooses_13 : decode b_M_chooses 13 = .ok (.iload 5, 2) := by decide +kernel
theorem d_M_chooses_15 : decode b_M_chooses 15 = .ok (.ifCond .eq 91, 3) := by decide +kernel
theorem d_M_chooses_18 : decode b_M_chooses 18 = .ok (.aload_n 0, 1) := by decide +kernel
theorem d_M_chooses_19 : decode b_M_chooses 19 = .ok (.iload_n 1, 1) := by decide +kernel
theorem d_M_chooses_20 : decode b_M_chooses 20 = .ok (.iload_n 2, 1) := by decide +kernel
theorem d_M_chooses_21 : decode b_M_chooses 21 = .ok (.invokevirtual 330, 3) := by decide +kernel
theorem d_M_chooses_24 : decode b_M_chooses 24 = .ok (.ifCond .eq 73, 3) := by decide +kernel
theorem d_M_chooses_27 : decode b_M_chooses 27 = .ok (.aload_n 0, 1) := by decide +kernel
theorem d_M_chooses_28 : decode b_M_chooses 28 = .ok (.iload_n 1, 1) := by decide +kernel
theorem d_M_chooses_29 : decode b_M_chooses 29 = .ok (.invokevirtual 333, 3) := by decide +kernel
theorem d_M_chooses_32 : decode b_M_chooses 32 = .ok (.ifCond .ne 65, 3) := by decide +kernel
theorem d_M_chooses_35 : decode b_M_chooses 35 = .ok (.aload_n 0, 1) := by decide +kernel
theorem d_M_chooses_36 : decode b_M_chooses 36 = .ok (.getfield 17, 3) := by decide +kernel
theorem d_M_chooses_39 : decode b_M_chooses 39 = .ok (.iload_n 1, 1) := by decide +kernel
theorem d_M_chooses_40 : decode b_M_chooses 40 = .ok (.iaload, 1) := by decide +kernel
theorem d_M_chooses_41 : decode b_M_chooses 41 = .ok (.iconst 1, 1) := by decide +kernel
theorem d_M_chooses_42 : decode b_M_chooses 42 = .ok (.if_icmp .ne 19, 3) := by decide +kernel
theorem d_M_chooses_45 : decode b_M_chooses 45 = .ok (.aload_n 0, 1) := by decide +kernel
theorem d_M_chooses_46 : decode b_M_chooses 46 = .ok (.getfield 108, 3) := by decide +kernel
theorem d_M_chooses_49 : decode b_M_chooses 49 = .ok (.iload_n 2, 1) := by decide +kernel
theorem d_M_chooses_50 : decode b_M_chooses 50 = .ok (.if_icmp .ne 11, 3) := by decide +kernel
theorem d_M_chooses_53 : decode b_M_chooses 53 = .ok (.aload_n 0, 1) := by decide +kernel
theorem d_M_chooses_54 : decode b_M_chooses 54 = .ok (.getfield 111, 3) := by decide +kernel
theorem d_M_chooses_57 : decode b_M_chooses 57 = .ok (.ineg, 1) := by decide +kernel
theorem d_M_chooses_58 : decode b_M_chooses 58 = .ok (.goto 8, 3) := by decide +kernel
theorem d_M_chooses_61 : decode b_M_chooses 61 = .ok (.aload_n 0, 1) := by decide +kernel
theorem d_M_chooses_62 : decode b_M_chooses 62 = .ok (.iload_n 1, 1) := by decide +kernel
theorem d_M_chooses_63 : decode b_M_chooses 63 = .ok (.invokevirtual 336, 3) := by decide +kernel
theorem d_M_chooses_66 : decode b_M_chooses 66 = .ok (.istore 6, 2) := by decide +kernel
theorem d_M_chooses_68 : decode b_M_chooses 68 = .ok (.iload_n 3, 1) := by decide +kernel
theorem d_M_chooses_69 : decode b_M_chooses 69 = .ok (.ifCond .eq 10, 3) := by decide +kernel
theorem d_M_chooses_72 : decode b_M_chooses 72 = .ok (.iload 6, 2) := by decide +kernel
theorem d_M_chooses_74 : decode b_M_chooses 74 = .ok (.iload 4, 2) := by decide +kernel
theorem d_M_chooses_76 : decode b_M_chooses 76 = .ok (.if_icmp .ge 21, 3) := by decide +kernel
theorem d_M_chooses_79 : decode b_M_chooses 79 = .ok (.iconst 1, 1) := by decide +kernel
theorem d_M_chooses_80 : decode b_M_chooses 80 = .ok (.istore_n 3, 1) := by decide +kernel
theorem d_M_chooses_81 : decode b_M_chooses 81 = .ok (.iload 6, 2) := by decide +kernel
theorem d_M_chooses_83 : decode b_M_chooses 83 = .ok (.istore 4, 2) := by decide +kernel
theorem d_M_chooses_85 : decode b_M_chooses 85 = .ok (.aload_n 0, 1) := by decide +kernel
theorem d_M_chooses_86 : decode b_M_chooses 86 = .ok (.aload_n 0, 1) := by decide +kernel
theorem d_M_chooses_87 : decode b_M_chooses 87 = .ok (.getfield 108, 3) := by decide +kernel
theorem d_M_chooses_90 : decode b_M_chooses 90 = .ok (.putfield 114, 3) := by decide +kernel
theorem d_M_chooses_93 : decode b_M_chooses 93 = .ok (.aload_n 0, 1) := by decide +kernel
theorem d_M_chooses_94 : decode b_M_chooses 94 = .ok (.invokevirtual 339, 3) := by decide +kernel
theorem d_M_chooses_97 : decode b_M_chooses 97 = .ok (.aload_n 0, 1) := by decide +kernel
theorem d_M_chooses_98 : decode b_M_chooses 98 = .ok (.invokevirtual 342, 3) := by decide +kernel
theorem d_M_chooses_101 : decode b_M_chooses 101 = .ok (.istore 5, 2) := by decide +kernel
theorem d_M_chooses_103 : decode b_M_chooses 103 = .ok (.goto (-90), 3) := by decide +kernel
theorem d_M_chooses_106 : decode b_M_chooses 106 = .ok (.iload_n 3, 1) := by decide +kernel
theorem d_M_chooses_107 : decode b_M_chooses 107 = .ok (.ireturn, 1) := by decide +kernel
set_option maxRecDepth 20000 in
theorem c_M_chooses_b97 {r : Int32} {wz : gW} {rec13 : Nat × Int32 × Int32 × Int32 × Int32 × Int32 × gW → Option (Int32 × gW)} (ih13 : ∀ (a0 : Nat) (a1 : Int32) (a2 : Int32) (a3 : Int32) (a4 : Int32) (a5 : Int32) (w : gW) (ls : Array Slot) (H : Heap) (locs : List Loc), rec13 (a0, a1, a2, a3, a4, a5, w) = some (r, wz) → lv_has ls 7 [(0, .ref (B + a0)), (1, .int a1), (2, .int a2), (3, .int a3), (4, .int a4), (5, .int a5)] → gRep D cA B w H → va_S (gA B) s.heap H locs → W p l e ({ frames := 6, cells := 0, slots := 0, locals := 164 } : Room) s m args below meth c H locs 0 0 (MQ below (gQi D cA B r wz) args s 0 0 (gA B)) (F0 m 13 ls [])) (C : gC p s m args meth c "RidCoppersModel" b_M_chooses 7 (some .boolean) D cA oc B) (a0 : Nat) (a1 : Int32) (a2 : Int32) (a3 : Int32) (a4 : Int32) (w : gW) {ls : Array Slot} {H : Heap} {locs : List Loc} (hl : lv_has ls 7 [(0, .ref (B + a0)), (1, .int a1), (2, .int a2), (3, .int a3), (4, .int a4)]) (hf : f_M_chooses_b97 N rec13 a0 a1 a2 a3 a4 w = some (r, wz)) (hR : gRep D cA B w H) (hS : va_S (gA B) s.heap H locs) : W p l e ({ frames := 6, cells := 0, slots := 0, locals := 164 } : Room) s m args below meth c H locs 0 0 (MQ below (gQi D cA B r wz) args s 0 0 (gA B)) (F0 m 97 ls []) := by
  obtain ⟨hx, hb, hml, hown, hts, hr, hlocks, hK, hBs⟩ := id C
  unfold f_M_chooses_b97 at hf
  refine lv_aload_n hx hb d_M_chooses_97 rfl (lv_at hl 0 rfl) ?_
  have ⟨h13, hf⟩ := gd_e hf
  have ⟨x10, w11, h12, hf⟩ := kl_e hf
  refine g_ki0 (g_rV (As := []) (rest := []) hx hb hml hown hts hK hR hS (c_M_nextHand l D cA oc B N a0 w h12) I_M_nextHand m_1384 mp_64 (gRecv hK hR (ci := 12) rfl h13) rfl rfl (Nat.le_of_ble_eq_true rfl) hl.1 ⟨Nat.le_of_ble_eq_true rfl, Nat.le_of_ble_eq_true rfl⟩ ⟨Nat.le_of_ble_eq_true rfl, Nat.le_of_ble_eq_true rfl⟩ d_M_chooses_98) hS (fun H locs hR hS => ?_)
  refine lv_istore (lv' := [(5, .int x10), (0, .ref (B + a0)), (1, .int a1), (2, .int a2), (3, .int a3), (4, .int a4)]) hx hb d_M_chooses_101 hl (by decide) rfl (fun ls hl => ?_)
  refine lv_goto (tgt := 13) hx hb d_M_chooses_103 (by decide) ?_
  exact ih13 a0 a1 a2 a3 a4 x10 w11 _ _ _ hf (lv_sub hl [1, 2, 3, 4, 5, 0] rfl) hR hS
set_option maxRecDepth 20000 in
theorem c_M_chooses_b79 {r : Int32} {wz : gW} {rec13 : Nat × Int32 × Int32 × Int32 × Int32 × Int32 × gW → Option (Int32 × gW)} (ih13 : ∀ (a0 : Nat) (a1 : Int32) (a2 : Int32) (a3 : Int32) (a4 : Int32) (a5 : Int32) (w : gW) (ls : Array Slot) (H : Heap) (locs : List Loc), rec13 (a0, a1, a2, a3, a4, a5, w) = some (r, wz) → lv_has ls 7 [(0, .ref (B + a0)), (1, .int a1), (2, .int a2), (3, .int a3), (4, .int a4), (5, .int a5)] → gRep D cA B w H → va_S (gA B) s.heap H locs → W p l e ({ frames := 6, cells := 0, slots := 0, locals := 164 } : Room) s m args below meth c H locs 0 0 (MQ below (gQi D cA B r wz) args s 0 0 (gA B)) (F0 m 13 ls [])) (C : gC p s m args meth c "RidCoppersModel" b_M_chooses 7 (some .boolean) D cA oc B) (a0 : Nat) (a1 : Int32) (a2 : Int32) (a6 : Int32) (w : gW) {ls : Array Slot} {H : Heap} {locs : List Loc} (hl : lv_has ls 7 [(0, .ref (B + a0)), (1, .int a1), (2, .int a2), (6, .int a6)]) (hf : f_M_chooses_b79 N rec13 a0 a1 a2 a6 w = some (r, wz)) (hR : gRep D cA B w H) (hS : va_S (gA B) s.heap H locs) : W p l e ({ frames := 6, cells := 0, slots := 0, locals := 164 } : Room) s m args below meth c H locs 0 0 (MQ below (gQi D cA B r wz) args s 0 0 (gA B)) (F0 m 79 ls []) := by
  obtain ⟨hx, hb, hml, hown, hts, hr, hlocks, hK, hBs⟩ := id C
  unfold f_M_chooses_b79 at hf
  refine lv_iconst (v := 1) hx hb d_M_chooses_79 (by decide) ?_
  refine lv_istore_n (lv' := [(3, .int 1), (0, .ref (B + a0)), (1, .int a1), (2, .int a2), (6, .int a6)]) hx hb d_M_chooses_80 rfl hl (by decide) rfl (fun ls hl => ?_)
  refine lv_iload hx hb d_M_chooses_81 (lv_at hl 4 rfl) ?_
  refine lv_istore (lv' := [(4, .int a6), (3, .int 1), (0, .ref (B + a0)), (1, .int a1), (2, .int a2), (6, .int a6)]) hx hb d_M_chooses_83 hl (by decide) rfl (fun ls hl => ?_)
  refine lv_aload_n hx hb d_M_chooses_85 rfl (lv_at hl 2 rfl) ?_
  refine lv_aload_n hx hb d_M_chooses_86 rfl (lv_at hl 2 rfl) ?_
  have ⟨h28, hf⟩ := gd_e hf
  refine g_getI hx hb hts hown hK hR fl_M_108 (fun _ => rfl) h28 d_M_chooses_87 ?_
  refine g_nI hf (fun x29 hf => ?_)
  refine g_putI hx hb hts hown hK hR hS pf_M_114 (fun _ => rfl) rfl rfl h28 d_M_chooses_90 (fun H locs hR hS => ?_)
  refine g_nW hf hR (fun w30 hf hR => ?_)
  refine lv_aload_n hx hb d_M_chooses_93 rfl (lv_at hl 2 rfl) ?_
  have ⟨h34, hf⟩ := gd_e hf
  have ⟨x31, w32, h33, hf⟩ := kl_e hf
  refine g_kv0 (g_rV (As := []) (rest := []) hx hb hml hown hts hK hR hS (c_M_layBest l D cA oc B N a0 w30 h33) I_M_layBest m_1380 mp_63 (gRecv hK hR (ci := 12) rfl h34) rfl rfl (Nat.le_of_ble_eq_true rfl) hl.1 ⟨Nat.le_of_ble_eq_true rfl, Nat.le_of_ble_eq_true rfl⟩ ⟨Nat.le_of_ble_eq_true rfl, Nat.le_of_ble_eq_true rfl⟩ d_M_chooses_94) hS (fun H locs hR hS => ?_)
  exact c_M_chooses_b97 ih13 C a0 a1 a2 1 a6 w32 (lv_sub hl [2, 3, 4, 1, 0] rfl) hf hR hS
set_option maxRecDepth 20000 in
theorem c_M_chooses_b66 {r : Int32} {wz : gW} {rec13 : Nat × Int32 × Int32 × Int32 × Int32 × Int32 × gW → Option (Int32 × gW)} (ih13 : ∀ (a0 : Nat) (a1 : Int32) (a2 : Int32) (a3 : Int32) (a4 : Int32) (a5 : Int32) (w : gW) (ls : Array Slot) (H : Heap) (locs : List Loc), rec13 (a0, a1, a2, a3, a4, a5, w) = some (r, wz) → lv_has ls 7 [(0, .ref (B + a0)), (1, .int a1), (2, .int a2), (3, .int a3), (4, .int a4), (5, .int a5)] → gRep D cA B w H → va_S (gA B) s.heap H locs → W p l e ({ frames := 6, cells := 0, slots := 0, locals := 164 } : Room) s m args below meth c H locs 0 0 (MQ below (gQi D cA B r wz) args s 0 0 (gA B)) (F0 m 13 ls [])) (C : gC p s m args meth c "RidCoppersModel" b_M_chooses 7 (some .boolean) D cA oc B) (a0 : Nat) (a1 : Int32) (a2 : Int32) (a3 : Int32) (a4 : Int32) (z0 : Int32) (w : gW) {ls : Array Slot} {H : Heap} {locs : List Loc} (hl : lv_has ls 7 [(0, .ref (B + a0)), (1, .int a1), (2, .int a2), (3, .int a3), (4, .int a4)]) (hf : f_M_chooses_b66 N rec13 a0 a1 a2 a3 a4 z0 w = some (r, wz)) (hR : gRep D cA B w H) (hS : va_S (gA B) s.heap H locs) : W p l e ({ frames := 6, cells := 0, slots := 0, locals := 164 } : Room) s m args below meth c H locs 0 0 (MQ below (gQi D cA B r wz) args s 0 0 (gA B)) (F0 m 66 ls [.int z0]) := by
  obtain ⟨hx, hb, hml, hown, hts, hr, hlocks, hK, hBs⟩ := id C
  unfold f_M_chooses_b66 at hf
  refine lv_istore (lv' := [(6, .int z0), (0, .ref (B + a0)), (1, .int a1), (2, .int a2), (3, .int a3), (4, .int a4)]) hx hb d_M_chooses_66 hl (by decide) rfl (fun ls hl => ?_)
  refine lv_iload_n hx hb d_M_chooses_68 rfl (lv_at hl 4 rfl) ?_
  refine lv_if_eq (tgt := 79) hx hb d_M_chooses_69 (by decide) (fun hc => ?_) (fun hc => ?_)
  · have hf := cd_t hc hf
    exact c_M_chooses_b79 ih13 C a0 a1 a2 z0 w (lv_sub hl [1, 2, 3, 0] rfl) hf hR hS
  have hf := cd_f hc hf
  refine lv_iload hx hb d_M_chooses_72 (lv_at hl 0 rfl) ?_
  refine lv_iload hx hb d_M_chooses_74 (lv_at hl 5 rfl) ?_
  refine lv_icmp_ge (tgt := 97) hx hb d_M_chooses_76 (by decide) (fun hc => ?_) (fun hc => ?_)
  · have hf := cd_t hc hf
    exact c_M_chooses_b97 ih13 C a0 a1 a2 a3 a4 w (lv_sub hl [1, 2, 3, 4, 5] rfl) hf hR hS
  have hf := cd_f hc hf
  exact c_M_chooses_b79 ih13 C a0 a1 a2 z0 w (lv_sub hl [1, 2, 3, 0] rfl) hf hR hS
set_option maxRecDepth 20000 in
theorem c_M_chooses_b61 {r : Int32} {wz : gW} {rec13 : Nat × Int32 × Int32 × Int32 × Int32 × Int32 × gW → Option (Int32 × gW)} (ih13 : ∀ (a0 : Nat) (a1 : Int32) (a2 : Int32) (a3 : Int32) (a4 : Int32) (a5 : Int32) (w : gW) (ls : Array Slot) (H : Heap) (locs : List Loc), rec13 (a0, a1, a2, a3, a4, a5, w) = some (r, wz) → lv_has ls 7 [(0, .ref (B + a0)), (1, .int a1), (2, .int a2), (3, .int a3), (4, .int a4), (5, .int a5)] → gRep D cA B w H → va_S (gA B) s.heap H locs → W p l e ({ frames := 6, cells := 0, slots := 0, locals := 164 } : Room) s m args below meth c H locs 0 0 (MQ below (gQi D cA B r wz) args s 0 0 (gA B)) (F0 m 13 ls [])) (C : gC p s m args meth c "RidCoppersModel" b_M_chooses 7 (some .boolean) D cA oc B) (a0 : Nat) (a1 : Int32) (a2 : Int32) (a3 : Int32) (a4 : Int32) (w : gW) {ls : Array Slot} {H : Heap} {locs : List Loc} (hl : lv_has ls 7 [(0, .ref (B + a0)), (1, .int a1), (2, .int a2), (3, .int a3), (4, .int a4)]) (hf : f_M_chooses_b61 N rec13 a0 a1 a2 a3 a4 w = some (r, wz)) (hR : gRep D cA B w H) (hS : va_S (gA B) s.heap H locs) : W p l e ({ frames := 6, cells := 0, slots := 0, locals := 164 } : Room) s m args below meth c H locs 0 0 (MQ below (gQi D cA B r wz) args s 0 0 (gA B)) (F0 m 61 ls []) := by
  obtain ⟨hx, hb, hml, hown, hts, hr, hlocks, hK, hBs⟩ := id C
  unfold f_M_chooses_b61 at hf
  refine lv_aload_n hx hb d_M_chooses_61 rfl (lv_at hl 0 rfl) ?_
  refine lv_iload_n hx hb d_M_chooses_62 rfl (lv_at hl 1 rfl) ?_
  have ⟨h27, hf⟩ := gd_e hf
  have ⟨x24, w25, h26, hf⟩ := kl_e hf
  refine g_ki0 (g_rV (As := [.int a1]) (rest := []) hx hb hml hown hts hK hR hS (c_M_badness l D cA oc B N a0 a1 w h26) I_M_badness m_1372 mp_61 (gRecv hK hR (ci := 12) rfl h27) rfl rfl (Nat.le_of_ble_eq_true rfl) hl.1 ⟨Nat.le_of_ble_eq_true rfl, Nat.le_of_ble_eq_true rfl⟩ ⟨Nat.le_of_ble_eq_true rfl, Nat.le_of_ble_eq_true rfl⟩ d_M_chooses_63) hS (fun H locs hR hS => ?_)
  exact c_M_chooses_b66 ih13 C a0 a1 a2 a3 a4 x24 w25 (lv_sub hl [0, 1, 2, 3, 4] rfl) hf hR hS
set_option maxRecDepth 20000 in
theorem c_M_chooses_b13 {r : Int32} {wz : gW} {rec13 : Nat × Int32 × Int32 × Int32 × Int32 × Int32 × gW → Option (Int32 × gW)} (ih13 : ∀ (a0 : Nat) (a1 : Int32) (a2 : Int32) (a3 : Int32) (a4 : Int32) (a5 : Int32) (w : gW) (ls : Array Slot) (H : Heap) (locs : List Loc), rec13 (a0, a1, a2, a3, a4, a5, w) = some (r, wz) → lv_has ls 7 [(0, .ref (B + a0)), (1, .int a1), (2, .int a2), (3, .int a3), (4, .int a4), (5, .int a5)] → gRep D cA B w H → va_S (gA B) s.heap H locs → W p l e ({ frames := 6, cells := 0, slots := 0, locals := 164 } : Room) s m args below meth c H locs 0 0 (MQ below (gQi D cA B r wz) args s 0 0 (gA B)) (F0 m 13 ls [])) (C : gC p s m args meth c "RidCoppersModel" b_M_chooses 7 (some .boolean) D cA oc B) (a0 : Nat) (a1 : Int32) (a2 : Int32) (a3 : Int32) (a4 : Int32) (a5 : Int32) (w : gW) {ls : Array Slot} {H : Heap} {locs : List Loc} (hl : lv_has ls 7 [(0, .ref (B + a0)), (1, .int a1), (2, .int a2), (3, .int a3), (4, .int a4), (5, .int a5)]) (hf : f_M_chooses_b13 N rec13 a0 a1 a2 a3 a4 a5 w = some (r, wz)) (hR : gRep D cA B w H) (hS : va_S (gA B) s.heap H locs) : W p l e ({ frames := 6, cells := 0, slots := 0, locals := 164 } : Room) s m args below meth c H locs 0 0 (MQ below (gQi D cA B r wz) args s 0 0 (gA B)) (F0 m 13 ls []) := by
  obtain ⟨hx, hb, hml, hown, hts, hr, hlocks, hK, hBs⟩ := id C
  unfold f_M_chooses_b13 at hf
  refine lv_iload hx hb d_M_chooses_13 (lv_at hl 5 rfl) ?_
  refine lv_if_eq (tgt := 106) hx hb d_M_chooses_15 (by decide) (fun hc => ?_) (fun hc => ?_)
  · have hf := cd_t hc hf
    refine lv_iload_n hx hb d_M_chooses_106 rfl (lv_at hl 3 rfl) ?_
    have ⟨h5, hf⟩ := gd_e hf
    exact g_iret hx hb hr hlocks hR hS hf (nb01 h5) d_M_chooses_107
  have hf := cd_f hc hf
  refine lv_aload_n hx hb d_M_chooses_18 rfl (lv_at hl 0 rfl) ?_
  refine lv_iload_n hx hb d_M_chooses_19 rfl (lv_at hl 1 rfl) ?_
  refine lv_iload_n hx hb d_M_chooses_20 rfl (lv_at hl 2 rfl) ?_
  have ⟨h9, hf⟩ := gd_e hf
  have ⟨x6, w7, h8, hf⟩ := kl_e hf
  refine g_ki0 (g_rV (As := [.int a1, .int a2]) (rest := []) hx hb hml hown hts hK hR hS (c_M_pays l D cA oc B N a0 a1 a2 w h8) I_M_pays m_1360 mp_58 (gRecv hK hR (ci := 12) rfl h9) rfl rfl (Nat.le_of_ble_eq_true rfl) hl.1 ⟨Nat.le_of_ble_eq_true rfl, Nat.le_of_ble_eq_true rfl⟩ ⟨Nat.le_of_ble_eq_true rfl, Nat.le_of_ble_eq_true rfl⟩ d_M_chooses_21) hS (fun H locs hR hS => ?_)
  refine lv_if_eq (tgt := 97) hx hb d_M_chooses_24 (by decide) (fun hc => ?_) (fun hc => ?_)
  · have hf := cd_t hc hf
    exact c_M_chooses_b97 ih13 C a0 a1 a2 a3 a4 w7 (lv_sub hl [0, 1, 2, 3, 4] rfl) hf hR hS
  have hf := cd_f hc hf
  refine lv_aload_n hx hb d_M_chooses_27 rfl (lv_at hl 0 rfl) ?_
  refine lv_iload_n hx hb d_M_chooses_28 rfl (lv_at hl 1 rfl) ?_
  have ⟨h17, hf⟩ := gd_e hf
  have ⟨x14, w15, h16, hf⟩ := kl_e hf
  refine g_ki0 (g_rV (As := [.int a1]) (rest := []) hx hb hml hown hts hK hR hS (c_M_isBarred l D cA oc B N a0 a1 w7 h16) I_M_isBarred m_1368 mp_60 (gRecv hK hR (ci := 12) rfl h17) rfl rfl (Nat.le_of_ble_eq_true rfl) hl.1 ⟨Nat.le_of_ble_eq_true rfl, Nat.le_of_ble_eq_true rfl⟩ ⟨Nat.le_of_ble_eq_true rfl, Nat.le_of_ble_eq_true rfl⟩ d_M_chooses_29) hS (fun H locs hR hS => ?_)
  refine lv_if_ne (tgt := 97) hx hb d_M_chooses_32 (by decide) (fun hc => ?_) (fun hc => ?_)
  · have hf := cd_f hc hf
    exact c_M_chooses_b97 ih13 C a0 a1 a2 a3 a4 w15 (lv_sub hl [0, 1, 2, 3, 4] rfl) hf hR hS
  have hf := cd_t hc hf
  refine lv_aload_n hx hb d_M_chooses_35 rfl (lv_at hl 0 rfl) ?_
  have ⟨h18, hf⟩ := gd_e hf
  have ⟨x19, h20, hf⟩ := rr_e hf
  refine g_getR hx hb hts hown hK hR fl_M_17 (fun _ => rfl) h18 h20 d_M_chooses_36 ?_
  refine lv_iload_n hx hb d_M_chooses_39 rfl (lv_at hl 1 rfl) ?_
  have ⟨h21, hf⟩ := gd_e hf
  have ⟨h22, hf⟩ := gd_e hf
  refine g_iald hx hb hK hR h21 h22 d_M_chooses_40 ?_
  refine g_nI hf (fun x23 hf => ?_)
  refine lv_iconst (v := 1) hx hb d_M_chooses_41 (by decide) ?_
  refine lv_icmp_ne (tgt := 61) hx hb d_M_chooses_42 (by decide) (fun hc => ?_) (fun hc => ?_)
  · have hf := cd_f hc hf
    exact c_M_chooses_b61 ih13 C a0 a1 a2 a3 a4 w15 (lv_sub hl [0, 1, 2, 3, 4] rfl) hf hR hS
  have hf := cd_t hc hf
  refine lv_aload_n hx hb d_M_chooses_45 rfl (lv_at hl 0 rfl) ?_
  refine g_getI hx hb hts hown hK hR fl_M_108 (fun _ => rfl) h18 d_M_chooses_46 ?_
  refine g_nI hf (fun x35 hf => ?_)
  refine lv_iload_n hx hb d_M_chooses_49 rfl (lv_at hl 2 rfl) ?_
  refine lv_icmp_ne (tgt := 61) hx hb d_M_chooses_50 (by decide) (fun hc => ?_) (fun hc => ?_)
  · have hf := cd_f hc hf
    exact c_M_chooses_b61 ih13 C a0 a1 a2 a3 a4 w15 (lv_sub hl [0, 1, 2, 3, 4] rfl) hf hR hS
  have hf := cd_t hc hf
  refine lv_aload_n hx hb d_M_chooses_53 rfl (lv_at hl 0 rfl) ?_
  refine g_getI hx hb hts hown hK hR fl_M_111 (fun _ => rfl) h18 d_M_chooses_54 ?_
  refine g_nI hf (fun x36 hf => ?_)
  refine lv_ineg hx hb d_M_chooses_57 ?_
  refine g_nI hf (fun x37 hf => ?_)
  refine lv_goto (tgt := 66) hx hb d_M_chooses_58 (by decide) ?_
  exact c_M_chooses_b66 ih13 C a0 a1 a2 a3 a4 x37 w15 (lv_sub hl [0, 1, 2, 3, 4] rfl) hf hR hS
theorem c_M_chooses_l13 {r : Int32} {wz : gW} (C : gC p s m args meth c "RidCoppersModel" b_M_chooses 7 (some .boolean) D cA oc B) (a0 : Nat) (a1 : Int32) (a2 : Int32) (a3 : Int32) (a4 : Int32) (a5 : Int32) (w : gW) {ls : Array Slot} {H : Heap} {locs : List Loc} (hl : lv_has ls 7 [(0, .ref (B + a0)), (1, .int a1), (2, .int a2), (3, .int a3), (4, .int a4), (5, .int a5)]) (hf : f_M_chooses_l13 N a0 a1 a2 a3 a4 a5 w = some (r, wz)) (hR : gRep D cA B w H) (hS : va_S (gA B) s.heap H locs) : W p l e ({ frames := 6, cells := 0, slots := 0, locals := 164 } : Room) s m args below meth c H locs 0 0 (MQ below (gQi D cA B r wz) args s 0 0 (gA B)) (F0 m 13 ls []) := by
  unfold f_M_chooses_l13 at hf
  suffices hh : ∀ n : Nat, ∀ (a0 : Nat) (a1 : Int32) (a2 : Int32) (a3 : Int32) (a4 : Int32) (a5 : Int32) (w : gW) (ls : Array Slot) (H : Heap) (locs : List Loc), itr (fun rec (q : Nat × Int32 × Int32 × Int32 × Int32 × Int32 × gW) => f_M_chooses_b13 N rec q.1 q.2.1 q.2.2.1 q.2.2.2.1 q.2.2.2.2.1 q.2.2.2.2.2.1 q.2.2.2.2.2.2) n (a0, a1, a2, a3, a4, a5, w) = some (r, wz) → lv_has ls 7 [(0, .ref (B + a0)), (1, .int a1), (2, .int a2), (3, .int a3), (4, .int a4), (5, .int a5)] → gRep D cA B w H → va_S (gA B) s.heap H locs → W p l e ({ frames := 6, cells := 0, slots := 0, locals := 164 } : Room) s m args below meth c H locs 0 0 (MQ below (gQi D cA B r wz) args s 0 0 (gA B)) (F0 m 13 ls []) from hh N a0 a1 a2 a3 a4 a5 w ls H locs hf hl hR hS
  intro n
  induction n with
  | zero => intro a0 a1 a2 a3 a4 a5 w ls H locs hf; cases hf
  | succ n ihn =>
    intro a0 a1 a2 a3 a4 a5 w ls H locs hf hl hR hS
    exact c_M_chooses_b13 (N := N) ihn C a0 a1 a2 a3 a4 a5 w hl ((itr_s _ _ _).symm.trans hf) hR hS
set_option maxRecDepth 20000 in
theorem c_M_chooses_b0 {r : Int32} {wz : gW} (C : gC p s m args meth c "RidCoppersModel" b_M_chooses 7 (some .boolean) D cA oc B) (a0 : Nat) (a1 : Int32) (a2 : Int32) (w : gW) {ls : Array Slot} {H : Heap} {locs : List Loc} (hl : lv_has ls 7 [(0, .ref (B + a0)), (1, .int a1), (2, .int a2)]) (hf : f_M_chooses_b0 N a0 a1 a2 w = some (r, wz)) (hR : gRep D cA B w H) (hS : va_S (gA B) s.heap H locs) : W p l e ({ frames := 6, cells := 0, slots := 0, locals := 164 } : Room) s m args below meth c H locs 0 0 (MQ below (gQi D cA B r wz) args s 0 0 (gA B)) (F0 m 0 ls []) := by
  obtain ⟨hx, hb, hml, hown, hts, hr, hlocks, hK, hBs⟩ := id C
  unfold f_M_chooses_b0 at hf
  refine lv_aload_n hx hb d_M_chooses_0 rfl (lv_at hl 0 rfl) ?_
  refine lv_iload_n hx hb d_M_chooses_1 rfl (lv_at hl 1 rfl) ?_
  have ⟨h4, hf⟩ := gd_e hf
  have ⟨x1, w2, h3, hf⟩ := kl_e hf
  refine g_kv0 (g_rV (As := [.int a1]) (rest := []) hx hb hml hown hts hK hR hS (c_M_layLimits l D cA oc B N a0 a1 w h3) I_M_layLimits m_1356 mp_57 (gRecv hK hR (ci := 12) rfl h4) rfl rfl (Nat.le_of_ble_eq_true rfl) hl.1 ⟨Nat.le_of_ble_eq_true rfl, Nat.le_of_ble_eq_true rfl⟩ ⟨Nat.le_of_ble_eq_true rfl, Nat.le_of_ble_eq_true rfl⟩ d_M_chooses_2) hS (fun H locs hR hS => ?_)
  refine lv_iconst (v := 0) hx hb d_M_chooses_5 (by decide) ?_
  refine lv_istore_n (lv' := [(3, .int 0), (0, .ref (B + a0)), (1, .int a1), (2, .int a2)]) hx hb d_M_chooses_6 rfl hl (by decide) rfl (fun ls hl => ?_)
  refine lv_iconst (v := 0) hx hb d_M_chooses_7 (by decide) ?_
  refine lv_istore (lv' := [(4, .int 0), (3, .int 0), (0, .ref (B + a0)), (1, .int a1), (2, .int a2)]) hx hb d_M_chooses_8 hl (by decide) rfl (fun ls hl => ?_)
  refine lv_iconst (v := 1) hx hb d_M_chooses_10 (by decide) ?_
  refine lv_istore (lv' := [(5, .int 1), (4, .int 0), (3, .int 0), (0, .ref (B + a0)), (1, .int a1), (2, .int a2)]) hx hb d_M_chooses_11 hl (by decide) rfl (fun ls hl => ?_)
  exact c_M_chooses_l13 C a0 a1 a2 0 0 1 w2 (lv_sub hl [3, 4, 5, 2, 1, 0] rfl) hf hR hS
theorem c_M_chooses (l : Launch) (D : va_G) (cA : Nat → ClassId) (oc : gO) (B N : Nat) (a0 : Nat) (a1 : Int32) (a2 : Int32) (w : gW) {wz : gW} {r : Int32} (hf : f_M_chooses N a0 a1 a2 w = some (r, wz)) : Met l y_M_chooses (Cond.code y_M_chooses b_M_chooses 7 (some .boolean) :: lw_good) ({ frames := 6, cells := 0, slots := 0, locals := 164 } : Room) (gPre D cA oc B [.ref (B + a0), .int a1, .int a2] w) (gQi D cA B r wz) 0 0 (gA B) := by
  refine Met.ofW (cc := b_M_chooses) (maxL := 7) (ret := (some .boolean)) (by decide +kernel) rfl ?_
  intro p e s m args below meth c s₁ Bd hml hv
  obtain ⟨hargs, C, hR⟩ := gC.enter (l := l) rfl Bd hml hv
  subst hargs
  have hl := lv_entry ([.ref (B + a0), .int a1, .int a2]) (n := 7) (Nat.le_of_ble_eq_true rfl)
  rw [lg_entry_eq]
  generalize (lg_sl ([.ref (B + a0), .int a1, .int a2]) ++ List.replicate (7 - (lg_sl ([.ref (B + a0), .int a1, .int a2])).length) Slot.unset).toArray = ls at hl ⊢
  have hl : lv_has ls 7 [(0, .ref (B + a0)), (1, .int a1), (2, .int a2)] := hl
  exact c_M_chooses_b0 C a0 a1 a2 w (lv_sub hl [0, 1, 2] rfl) hf hR va_S.rf
theorem d_M_coinsOf_0 : decode b_M_coinsOf 0 = .ok (.iconst 0, 1) := by decide +kernel
theorem d_M_coinsOf_1 : decode b_M_coinsOf 1 = .ok (.istore_n 1, 1) := by decide +kernel
theorem d_M_coinsOf_2 : decode b_M_coinsOf 2 = .ok (.iconst 0, 1) := by decide +kernel
theorem d_M_coinsOf_3 : decode b_M_coinsOf 3 = .ok (.istore_n 2, 1) := by decide +kernel
theorem d_M_coinsOf_4 : decode b_M_coinsOf 4 = .ok (.iload_n 2, 1) := by decide +kernel
theorem d_M_coinsOf_5 : decode b_M_coinsOf 5 = .ok (.bipush 6, 2) := by decide +kernel
theorem d_M_coinsOf_7 : decode b_M_coinsOf 7 = .ok (.if_icmp .ge 18, 3) := by decide +kernel
theorem d_M_coinsOf_10 : decode b_M_coinsOf 10 = .ok (.iload_n 1, 1) := by decide +kernel
theorem d_M_coinsOf_11 : decode b_M_coinsOf 11 = .ok (.aload_n 0, 1) := by decide +kernel
theorem d_M_coinsOf_12 : decode b_M_coinsOf 12 = .ok (.getfield 102, 3) := by decide +kernel
theorem d_M_coinsOf_15 : decode b_M_coinsOf 15 = .ok (.iload_n 2, 1) := by decide +kernel
theorem d_M_coinsOf_16 : decode b_M_coinsOf 16 = .ok (.iaload, 1) := by decide +kernel
theorem d_M_coinsOf_17 : decode b_M_coinsOf 17 = .ok (.iadd, 1) := by decide +kernel
theorem d_M_coinsOf_18 : decode b_M_coinsOf 18 = .ok (.istore_n 1, 1) := by decide +kernel
theorem d_M_coinsOf_19 : decode b_M_coinsOf 19 = .ok (.iinc 2 1, 3) := by decide +kernel
theorem d_M_coinsOf_22 : decode b_M_coinsOf 22 = .ok (.goto (-18), 3) := by decide +kernel
theorem d_M_coinsOf_25 : decode b_M_coinsOf 25 = .ok (.iload_n 1, 1) := by decide +kernel
theorem d_M_coinsOf_26 : decode b_M_coinsOf 26 = .ok (.ireturn, 1) := by decide +kernel
set_option maxRecDepth 20000 in
theorem c_M_coinsOf_b4 {r : Int32} {wz : gW} {rec4 : Nat × Int32 × Int32 × gW → Option (Int32 × gW)} (ih4 : ∀ (a0 : Nat) (a1 : Int32) (a2 : Int32) (w : gW) (ls : Array Slot) (H : Heap) (locs : List Loc), rec4 (a0, a1, a2, w) = some (r, wz) → lv_has ls 3 [(0, .ref (B + a0)), (1, .int a1), (2, .int a2)] → gRep D cA B w H → va_S (gA B) s.heap H locs → W p l e ({ frames := 1, cells := 0, slots := 0, locals := 40 } : Room) s m args below meth c H locs 0 0 (MQ below (gQi D cA B r wz) args s 0 0 (gA B)) (F0 m 4 ls [])) (C : gC p s m args meth c "RidCoppersModel" b_M_coinsOf 3 (some .int) D cA oc B) (a0 : Nat) (a1 : Int32) (a2 : Int32) (w : gW) {ls : Array Slot} {H : Heap} {locs : List Loc} (hl : lv_has ls 3 [(0, .ref (B + a0)), (1, .int a1), (2, .int a2)]) (hf : f_M_coinsOf_b4 N rec4 a0 a1 a2 w = some (r, wz)) (hR : gRep D cA B w H) (hS : va_S (gA B) s.heap H locs) : W p l e ({ frames := 1, cells := 0, slots := 0, locals := 40 } : Room) s m args below meth c H locs 0 0 (MQ below (gQi D cA B r wz) args s 0 0 (gA B)) (F0 m 4 ls []) := by
  obtain ⟨hx, hb, hml, hown, hts, hr, hlocks, hK, hBs⟩ := id C
  unfold f_M_coinsOf_b4 at hf
  refine lv_iload_n hx hb d_M_coinsOf_4 rfl (lv_at hl 2 rfl) ?_
  refine lv_bipush (v := 6) hx hb d_M_coinsOf_5 (by decide) ?_
  refine lv_icmp_ge (tgt := 25) hx hb d_M_coinsOf_7 (by decide) (fun hc => ?_) (fun hc => ?_)
  · have hf := cd_t hc hf
    refine lv_iload_n hx hb d_M_coinsOf_25 rfl (lv_at hl 1 rfl) ?_
    exact g_iret hx hb hr hlocks hR hS hf rfl d_M_coinsOf_26
  have hf := cd_f hc hf
  refine lv_iload_n hx hb d_M_coinsOf_10 rfl (lv_at hl 1 rfl) ?_
  refine lv_aload_n hx hb d_M_coinsOf_11 rfl (lv_at hl 0 rfl) ?_
  have ⟨h1, hf⟩ := gd_e hf
  have ⟨x2, h3, hf⟩ := rr_e hf
  refine g_getR hx hb hts hown hK hR fl_M_102 (fun _ => rfl) h1 h3 d_M_coinsOf_12 ?_
  refine lv_iload_n hx hb d_M_coinsOf_15 rfl (lv_at hl 2 rfl) ?_
  have ⟨h4, hf⟩ := gd_e hf
  have ⟨h5, hf⟩ := gd_e hf
  refine g_iald hx hb hK hR h4 h5 d_M_coinsOf_16 ?_
  refine g_nI hf (fun x6 hf => ?_)
  refine lv_iadd hx hb d_M_coinsOf_17 ?_
  refine g_nI hf (fun x7 hf => ?_)
  refine lv_istore_n (lv' := [(1, .int x7), (0, .ref (B + a0)), (2, .int a2)]) hx hb d_M_coinsOf_18 rfl hl (by decide) rfl (fun ls hl => ?_)
  refine g_iinc (lv' := fun x8 => [(2, .int x8), (1, .int x7), (0, .ref (B + a0))]) hf hx hb d_M_coinsOf_19 hl (k := 2) rfl (by decide) (by decide) (fun _ => rfl) (fun x8 ls hf hl => ?_)
  refine lv_goto (tgt := 4) hx hb d_M_coinsOf_22 (by decide) ?_
  exact ih4 a0 x7 x8 w _ _ _ hf (lv_sub hl [2, 1, 0] rfl) hR hS
theorem c_M_coinsOf_l4 {r : Int32} {wz : gW} (C : gC p s m args meth c "RidCoppersModel" b_M_coinsOf 3 (some .int) D cA oc B) (a0 : Nat) (a1 : Int32) (a2 : Int32) (w : gW) {ls : Array Slot} {H : Heap} {locs : List Loc} (hl : lv_has ls 3 [(0, .ref (B + a0)), (1, .int a1), (2, .int a2)]) (hf : f_M_coinsOf_l4 N a0 a1 a2 w = some (r, wz)) (hR : gRep D cA B w H) (hS : va_S (gA B) s.heap H locs) : W p l e ({ frames := 1, cells := 0, slots := 0, locals := 40 } : Room) s m args below meth c H locs 0 0 (MQ below (gQi D cA B r wz) args s 0 0 (gA B)) (F0 m 4 ls []) := by
  unfold f_M_coinsOf_l4 at hf
  suffices hh : ∀ n : Nat, ∀ (a0 : Nat) (a1 : Int32) (a2 : Int32) (w : gW) (ls : Array Slot) (H : Heap) (locs : List Loc), itr (fun rec (q : Nat × Int32 × Int32 × gW) => f_M_coinsOf_b4 N rec q.1 q.2.1 q.2.2.1 q.2.2.2) n (a0, a1, a2, w) = some (r, wz) → lv_has ls 3 [(0, .ref (B + a0)), (1, .int a1), (2, .int a2)] → gRep D cA B w H → va_S (gA B) s.heap H locs → W p l e ({ frames := 1, cells := 0, slots := 0, locals := 40 } : Room) s m args below meth c H locs 0 0 (MQ below (gQi D cA B r wz) args s 0 0 (gA B)) (F0 m 4 ls []) from hh N a0 a1 a2 w ls H locs hf hl hR hS
  intro n
  induction n with
  | zero => intro a0 a1 a2 w ls H locs hf; cases hf
  | succ n ihn =>
    intro a0 a1 a2 w ls H locs hf hl hR hS
    exact c_M_coinsOf_b4 (N := N) ihn C a0 a1 a2 w hl ((itr_s _ _ _).symm.trans hf) hR hS
set_option maxRecDepth 20000 in
theorem c_M_coinsOf_b0 {r : Int32} {wz : gW} (C : gC p s m args meth c "RidCoppersModel" b_M_coinsOf 3 (some .int) D cA oc B) (a0 : Nat) (w : gW) {ls : Array Slot} {H : Heap} {locs : List Loc} (hl : lv_has ls 3 [(0, .ref (B + a0))]) (hf : f_M_coinsOf_b0 N a0 w = some (r, wz)) (hR : gRep D cA B w H) (hS : va_S (gA B) s.heap H locs) : W p l e ({ frames := 1, cells := 0, slots := 0, locals := 40 } : Room) s m args below meth c H locs 0 0 (MQ below (gQi D cA B r wz) args s 0 0 (gA B)) (F0 m 0 ls []) := by
  obtain ⟨hx, hb, hml, hown, hts, hr, hlocks, hK, hBs⟩ := id C
  unfold f_M_coinsOf_b0 at hf
  refine lv_iconst (v := 0) hx hb d_M_coinsOf_0 (by decide) ?_
  refine lv_istore_n (lv' := [(1, .int 0), (0, .ref (B + a0))]) hx hb d_M_coinsOf_1 rfl hl (by decide) rfl (fun ls hl => ?_)
  refine lv_iconst (v := 0) hx hb d_M_coinsOf_2 (by decide) ?_
  refine lv_istore_n (lv' := [(2, .int 0), (1, .int 0), (0, .ref (B + a0))]) hx hb d_M_coinsOf_3 rfl hl (by decide) rfl (fun ls hl => ?_)
  exact c_M_coinsOf_l4 C a0 0 0 w (lv_sub hl [2, 1, 0] rfl) hf hR hS
theorem c_M_coinsOf (l : Launch) (D : va_G) (cA : Nat → ClassId) (oc : gO) (B N : Nat) (a0 : Nat) (w : gW) {wz : gW} {r : Int32} (hf : f_M_coinsOf N a0 w = some (r, wz)) : Met l y_M_coinsOf (Cond.code y_M_coinsOf b_M_coinsOf 3 (some .int) :: lw_good) ({ frames := 1, cells := 0, slots := 0, locals := 40 } : Room) (gPre D cA oc B [.ref (B + a0)] w) (gQi D cA B r wz) 0 0 (gA B) := by
  refine Met.ofW (cc := b_M_coinsOf) (maxL := 3) (ret := (some .int)) (by decide +kernel) rfl ?_
  intro p e s m args below meth c s₁ Bd hml hv
  obtain ⟨hargs, C, hR⟩ := gC.enter (l := l) rfl Bd hml hv
  subst hargs
  have hl := lv_entry ([.ref (B + a0)]) (n := 3) (Nat.le_of_ble_eq_true rfl)
  rw [lg_entry_eq]
  generalize (lg_sl ([.ref (B + a0)]) ++ List.replicate (3 - (lg_sl ([.ref (B + a0)])).length) Slot.unset).toArray = ls at hl ⊢
  have hl : lv_has ls 3 [(0, .ref (B + a0))] := hl
  exact c_M_coinsOf_b0 C a0 w (lv_sub hl [0] rfl) hf hR va_S.rf
theorem d_M_goes_0 : decode b_M_goes 0 = .ok (.aload_n 0, 1) := by decide +kernel
theorem d_M_goes_1 : decode b_M_goes 1 = .ok (.iload_n 1, 1) := by decide +kernel
theorem d_M_goes_2 : decode b_M_goes 2 = .ok (.iload_n 2, 1) := by decide +kernel
theorem d_M_goes_3 : decode b_M_goes 3 = .ok (.invokevirtual 345, 3) := by decide +kernel
theorem d_M_goes_6 : decode b_M_goes 6 = .ok (.ifCond .ne 5, 3) := by decide +kernel
theorem d_M_goes_9 : decode b_M_goes 9 = .ok (.iconst 0, 1) := by decide +kernel
theorem d_M_goes_10 : decode b_M_goes 10 = .ok (.ireturn, 1) := by decide +kernel
theorem d_M_goes_11 : decode b_M_goes 11 = .ok (.iconst 0, 1) := by decide +kernel
theorem d_M_goes_12 : decode b_M_goes 12 = .ok (.istore_n 3, 1) := by decide +kernel
theorem d_M_goes_13 : decode b_M_goes 13 = .ok (.iload_n 3, 1) := by decide +kernel
theorem d_M_goes_14 : decode b_M_goes 14 = .ok (.bipush 6, 2) := by decide +kernel
theorem d_M_goes_16 : decode b_M_goes 16 = .ok (.if_icmp .ge 58, 3) := by decide +kernel
theorem d_M_goes_19 : decode b_M_goes 19 = .ok (.aload_n 0, 1) := by decide +kernel
theorem d_M_goes_20 : decode b_M_goes 20 = .ok (.getfield 32, 3) := by decide +kernel
theorem d_M_goes_23 : decode b_M_goes 23 = .ok (.iload_n 3, 1) := by decide +kernel
theorem d_M_goes_24 : decode b_M_goes 24 = .ok (.dup2, 1) := by decide +kernel
theorem d_M_goes_25 : decode b_M_goes 25 = .ok (.iaload, 1) := by decide +kernel
theorem d_M_goes_26 : decode b_M_goes 26 = .ok (.aload_n 0, 1) := by decide +kernel
theorem d_M_goes_27 : decode b_M_goes 27 = .ok (.getfield 102, 3) := by decide +kernel
theorem d_M_goes_30 : decode b_M_goes 30 = .ok (.iload_n 3, 1) := by decide +kernel
theorem d_M_goes_31 : decode b_M_goes 31 = .ok (.iaload, 1) := by decide +kernel
theorem d_M_goes_32 : decode b_M_goes 32 = .ok (.aload_n 0, 1) := by decide +kernel
theorem d_M_goes_33 : decode b_M_goes 33 = .ok (.getfield 105, 3) := by decide +kernel
theorem d_M_goes_36 : decode b_M_goes 36 = .ok (.iload_n 3, 1) := by decide +kernel
theorem d_M_goes_37 : decode b_M_goes 37 = .ok (.iaload, 1) := by decide +kernel
theorem d_M_goes_38 : decode b_M_goes 38 = .ok (.isub, 1) := by decide +kernel
theorem d_M_goes_39 : decode b_M_goes 39 = .ok (.iadd, 1) := by decide +kernel
theorem d_M_goes_40 : decode b_M_goes 40 = .ok (.iastore, 1) := by decide +kernel
theorem d_M_goes_41 : decode b_M_goes 41 = .ok (.aload_n 0, 1) := by decide +kernel
theorem d_M_goes_42 : decode b_M_goes 42 = .ok (.getfield 29, 3) := by decide +kernel
theorem d_M_goes_45 : decode b_M_goes 45 = .ok (.bipush 6, 2) := by decide +kernel
theorem d_M_goes_47 : decode b_M_goes 47 = .ok (.iload_n 1, 1) := by decide +kernel
theorem d_M_goes_48 : decode b_M_goes 48 = .ok (.imul, 1) := by decide +kernel
theorem d_M_goes_49 : decode b_M_goes 49 = .ok (.iload_n 3, 1) := by decide +kernel
theorem d_M_goes_50 : decode b_M_goes 50 = .ok (.iadd, 1) := by decide +kernel
theorem d_M_goes_51 : decode b_M_goes 51 = .ok (.dup2, 1) := by decide +kernel
theorem d_M_goes_52 : decode b_M_goes 52 = .ok (.iaload, 1) := by decide +kernel
theorem d_M_goes_53 : decode b_M_goes 53 = .ok (.aload_n 0, 1) := by decide +kernel
theorem d_M_goes_54 : decode b_M_goes 54 = .ok (.getfield 105, 3) := by decide +kernel
theorem d_M_goes_57 : decode b_M_goes 57 = .ok (.iload_n 3, 1) := by decide +kernel
theorem d_M_goes_58 : decode b_M_goes 58 = .ok (.iaload, 1) := by decide +kernel
theorem d_M_goes_59 : decode b_M_goes 59 = .ok (.aload_n 0, 1) := by decide +kernel
theorem d_M_goes_60 : decode b_M_goes 60 = .ok (.getfield 102, 3) := by decide +kernel
theorem d_M_goes_63 : decode b_M_goes 63 = .ok (.iload_n 3, 1) := by decide +kernel
theorem d_M_goes_64 : decode b_M_goes 64 = .ok (.iaload, 1) := by decide +kernel
theorem d_M_goes_65 : decode b_M_goes 65 = .ok (.isub, 1) := by decide +kernel
theorem d_M_goes_66 : decode b_M_goes 66 = .ok (.iadd, 1) := by decide +kernel
theorem d_M_goes_67 : decode b_M_goes 67 = .ok (.iastore, 1) := by decide +kernel
theorem d_M_goes_68 : decode b_M_goes 68 = .ok (.iinc 3 1, 3) := by decide +kernel
theorem d_M_goes_71 : decode b_M_goes 71 = .ok (.goto (-58), 3) := by decide +kernel
theorem d_M_goes_74 : decode b_M_goes 74 = .ok (.aload_n 0, 1) := by decide +kernel
theorem d_M_goes_75 : decode b_M_goes 75 = .ok (.getfield 23, 3) := by decide +kernel
theorem d_M_goes_78 : decode b_M_goes 78 = .ok (.iload_n 1, 1) := by decide +kernel
theorem d_M_goes_79 : decode b_M_goes 79 = .ok (.aload_n 0, 1) := by decide +kernel
theorem d_M_goes_80 : decode b_M_goes 80 = .ok (.getfield 23, 3) := by decide +kernel
theorem d_M_goes_83 : decode b_M_goes 83 = .ok (.iload_n 1, 1) := by decide +kernel
theorem d_M_goes_84 : decode b_M_goes 84 = .ok (.iaload, 1) := by decide +kernel
theorem d_M_goes_85 : decode b_M_goes 85 = .ok (.sipush 9999, 3) := by decide +kernel
theorem d_M_goes_88 : decode b_M_goes 88 = .ok (.if_icmp .ge 14, 3) := by decide +kernel
theorem d_M_goes_91 : decode b_M_goes 91 = .ok (.aload_n 0, 1) := by decide +kernel
theorem d_M_goes_92 : decode b_M_goes 92 = .ok (.getfield 23, 3) := by decide +kernel
theorem d_M_goes_95 : decode b_M_goes 95 = .ok (.iload_n 1, 1) := by decide +kernel
theorem d_M_goes_96 : decode b_M_goes 96 = .ok (.iaload, 1) := by decide +kernel
theorem d_M_goes_97 : decode b_M_goes 97 = .ok (.iconst 1, 1) := by decide +kernel
theorem d_M_goes_98 : decode b_M_goes 98 = .ok (.iadd, 1) := by decide +kernel
theorem d_M_goes_99 : decode b_M_goes 99 = .ok (.goto 6, 3) := by decide +kernel
theorem d_M_goes_102 : decode b_M_goes 102 = .ok (.sipush 9999, 3) := by decide +kernel
theorem d_M_goes_105 : decode b_M_goes 105 = .ok (.iastore, 1) := by decide +kernel
theorem d_M_goes_106 : decode b_M_goes 106 = .ok (.iconst 1, 1) := by decide +kernel
theorem d_M_goes_107 : decode b_M_goes 107 = .ok (.ireturn, 1) := by decide +kernel
set_option maxRecDepth 20000 in
theorem c_M_goes_b105 {r : Int32} {wz : gW} (C : gC p s m args meth c "RidCoppersModel" b_M_goes 4 (some .boolean) D cA oc B) (z0 : Int32) (z1 : Int32) (z2 : Nat) (w : gW) {ls : Array Slot} {H : Heap} {locs : List Loc} (hl : lv_has ls 4 []) (hf : f_M_goes_b105 N z0 z1 z2 w = some (r, wz)) (hR : gRep D cA B w H) (hS : va_S (gA B) s.heap H locs) : W p l e ({ frames := 7, cells := 0, slots := 0, locals := 190 } : Room) s m args below meth c H locs 0 0 (MQ below (gQi D cA B r wz) args s 0 0 (gA B)) (F0 m 105 ls [.int z0, .int z1, .ref (B + z2)]) := by
  obtain ⟨hx, hb, hml, hown, hts, hr, hlocks, hK, hBs⟩ := id C
  unfold f_M_goes_b105 at hf
  have ⟨h11, hf⟩ := gd_e hf
  have ⟨h12, hf⟩ := gd_e hf
  refine g_iast hx hb hK hR hS h11 h12 d_M_goes_105 (fun H locs hR hS => ?_)
  refine g_nW hf hR (fun w13 hf hR => ?_)
  refine lv_iconst (v := 1) hx hb d_M_goes_106 (by decide) ?_
  exact g_iret hx hb hr hlocks hR hS hf rfl d_M_goes_107
set_option maxRecDepth 20000 in
theorem c_M_goes_b13 {r : Int32} {wz : gW} {rec13 : Nat × Int32 × Int32 × gW → Option (Int32 × gW)} (ih13 : ∀ (a0 : Nat) (a1 : Int32) (a3 : Int32) (w : gW) (ls : Array Slot) (H : Heap) (locs : List Loc), rec13 (a0, a1, a3, w) = some (r, wz) → lv_has ls 4 [(0, .ref (B + a0)), (1, .int a1), (3, .int a3)] → gRep D cA B w H → va_S (gA B) s.heap H locs → W p l e ({ frames := 7, cells := 0, slots := 0, locals := 190 } : Room) s m args below meth c H locs 0 0 (MQ below (gQi D cA B r wz) args s 0 0 (gA B)) (F0 m 13 ls [])) (C : gC p s m args meth c "RidCoppersModel" b_M_goes 4 (some .boolean) D cA oc B) (a0 : Nat) (a1 : Int32) (a3 : Int32) (w : gW) {ls : Array Slot} {H : Heap} {locs : List Loc} (hl : lv_has ls 4 [(0, .ref (B + a0)), (1, .int a1), (3, .int a3)]) (hf : f_M_goes_b13 N rec13 a0 a1 a3 w = some (r, wz)) (hR : gRep D cA B w H) (hS : va_S (gA B) s.heap H locs) : W p l e ({ frames := 7, cells := 0, slots := 0, locals := 190 } : Room) s m args below meth c H locs 0 0 (MQ below (gQi D cA B r wz) args s 0 0 (gA B)) (F0 m 13 ls []) := by
  obtain ⟨hx, hb, hml, hown, hts, hr, hlocks, hK, hBs⟩ := id C
  unfold f_M_goes_b13 at hf
  refine lv_iload_n hx hb d_M_goes_13 rfl (lv_at hl 2 rfl) ?_
  refine lv_bipush (v := 6) hx hb d_M_goes_14 (by decide) ?_
  refine lv_icmp_ge (tgt := 74) hx hb d_M_goes_16 (by decide) (fun hc => ?_) (fun hc => ?_)
  · have hf := cd_t hc hf
    refine lv_aload_n hx hb d_M_goes_74 rfl (lv_at hl 0 rfl) ?_
    have ⟨h5, hf⟩ := gd_e hf
    have ⟨x6, h7, hf⟩ := rr_e hf
    refine g_getR hx hb hts hown hK hR fl_M_23 (fun _ => rfl) h5 h7 d_M_goes_75 ?_
    refine lv_iload_n hx hb d_M_goes_78 rfl (lv_at hl 1 rfl) ?_
    refine lv_aload_n hx hb d_M_goes_79 rfl (lv_at hl 0 rfl) ?_
    refine g_getR hx hb hts hown hK hR fl_M_23 (fun _ => rfl) h5 h7 d_M_goes_80 ?_
    refine lv_iload_n hx hb d_M_goes_83 rfl (lv_at hl 1 rfl) ?_
    have ⟨h8, hf⟩ := gd_e hf
    have ⟨h9, hf⟩ := gd_e hf
    refine g_iald hx hb hK hR h8 h9 d_M_goes_84 ?_
    refine g_nI hf (fun x10 hf => ?_)
    refine lv_sipush (v := 9999) hx hb d_M_goes_85 (by decide) ?_
    refine lv_icmp_ge (tgt := 102) hx hb d_M_goes_88 (by decide) (fun hc => ?_) (fun hc => ?_)
    · have hf := cd_t hc hf
      refine lv_sipush (v := 9999) hx hb d_M_goes_102 (by decide) ?_
      exact c_M_goes_b105 C 9999 a1 x6 w (lv_sub hl [] rfl) hf hR hS
    have hf := cd_f hc hf
    refine lv_aload_n hx hb d_M_goes_91 rfl (lv_at hl 0 rfl) ?_
    refine g_getR hx hb hts hown hK hR fl_M_23 (fun _ => rfl) h5 h7 d_M_goes_92 ?_
    refine lv_iload_n hx hb d_M_goes_95 rfl (lv_at hl 1 rfl) ?_
    refine g_iald hx hb hK hR h8 h9 d_M_goes_96 ?_
    refine g_nI hf (fun x14 hf => ?_)
    refine lv_iconst (v := 1) hx hb d_M_goes_97 (by decide) ?_
    refine lv_iadd hx hb d_M_goes_98 ?_
    refine g_nI hf (fun x15 hf => ?_)
    refine lv_goto (tgt := 105) hx hb d_M_goes_99 (by decide) ?_
    exact c_M_goes_b105 C x15 a1 x6 w (lv_sub hl [] rfl) hf hR hS
  have hf := cd_f hc hf
  refine lv_aload_n hx hb d_M_goes_19 rfl (lv_at hl 0 rfl) ?_
  have ⟨h16, hf⟩ := gd_e hf
  have ⟨x17, h18, hf⟩ := rr_e hf
  refine g_getR hx hb hts hown hK hR fl_M_32 (fun _ => rfl) h16 h18 d_M_goes_20 ?_
  refine lv_iload_n hx hb d_M_goes_23 rfl (lv_at hl 2 rfl) ?_
  refine lv_dup2_11 hx hb d_M_goes_24 rfl rfl ?_
  have ⟨h19, hf⟩ := gd_e hf
  have ⟨h20, hf⟩ := gd_e hf
  refine g_iald hx hb hK hR h19 h20 d_M_goes_25 ?_
  refine g_nI hf (fun x21 hf => ?_)
  refine lv_aload_n hx hb d_M_goes_26 rfl (lv_at hl 0 rfl) ?_
  have ⟨x22, h23, hf⟩ := rr_e hf
  refine g_getR hx hb hts hown hK hR fl_M_102 (fun _ => rfl) h16 h23 d_M_goes_27 ?_
  refine lv_iload_n hx hb d_M_goes_30 rfl (lv_at hl 2 rfl) ?_
  have ⟨h24, hf⟩ := gd_e hf
  have ⟨h25, hf⟩ := gd_e hf
  refine g_iald hx hb hK hR h24 h25 d_M_goes_31 ?_
  refine g_nI hf (fun x26 hf => ?_)
  refine lv_aload_n hx hb d_M_goes_32 rfl (lv_at hl 0 rfl) ?_
  have ⟨x27, h28, hf⟩ := rr_e hf
  refine g_getR hx hb hts hown hK hR fl_M_105 (fun _ => rfl) h16 h28 d_M_goes_33 ?_
  refine lv_iload_n hx hb d_M_goes_36 rfl (lv_at hl 2 rfl) ?_
  have ⟨h29, hf⟩ := gd_e hf
  have ⟨h30, hf⟩ := gd_e hf
  refine g_iald hx hb hK hR h29 h30 d_M_goes_37 ?_
  refine g_nI hf (fun x31 hf => ?_)
  refine lv_isub hx hb d_M_goes_38 ?_
  refine g_nI hf (fun x32 hf => ?_)
  refine lv_iadd hx hb d_M_goes_39 ?_
  refine g_nI hf (fun x33 hf => ?_)
  refine g_iast hx hb hK hR hS h19 h20 d_M_goes_40 (fun H locs hR hS => ?_)
  refine g_nW hf hR (fun w34 hf hR => ?_)
  refine lv_aload_n hx hb d_M_goes_41 rfl (lv_at hl 0 rfl) ?_
  have ⟨h35, hf⟩ := gd_e hf
  have ⟨x36, h37, hf⟩ := rr_e hf
  refine g_getR hx hb hts hown hK hR fl_M_29 (fun _ => rfl) h35 h37 d_M_goes_42 ?_
  refine lv_bipush (v := 6) hx hb d_M_goes_45 (by decide) ?_
  refine lv_iload_n hx hb d_M_goes_47 rfl (lv_at hl 1 rfl) ?_
  refine lv_imul hx hb d_M_goes_48 ?_
  refine g_nI hf (fun x38 hf => ?_)
  refine lv_iload_n hx hb d_M_goes_49 rfl (lv_at hl 2 rfl) ?_
  refine lv_iadd hx hb d_M_goes_50 ?_
  refine g_nI hf (fun x39 hf => ?_)
  refine lv_dup2_11 hx hb d_M_goes_51 rfl rfl ?_
  have ⟨h40, hf⟩ := gd_e hf
  have ⟨h41, hf⟩ := gd_e hf
  refine g_iald hx hb hK hR h40 h41 d_M_goes_52 ?_
  refine g_nI hf (fun x42 hf => ?_)
  refine lv_aload_n hx hb d_M_goes_53 rfl (lv_at hl 0 rfl) ?_
  have ⟨x43, h44, hf⟩ := rr_e hf
  refine g_getR hx hb hts hown hK hR fl_M_105 (fun _ => rfl) h35 h44 d_M_goes_54 ?_
  refine lv_iload_n hx hb d_M_goes_57 rfl (lv_at hl 2 rfl) ?_
  have ⟨h45, hf⟩ := gd_e hf
  have ⟨h46, hf⟩ := gd_e hf
  refine g_iald hx hb hK hR h45 h46 d_M_goes_58 ?_
  refine g_nI hf (fun x47 hf => ?_)
  refine lv_aload_n hx hb d_M_goes_59 rfl (lv_at hl 0 rfl) ?_
  have ⟨x48, h49, hf⟩ := rr_e hf
  refine g_getR hx hb hts hown hK hR fl_M_102 (fun _ => rfl) h35 h49 d_M_goes_60 ?_
  refine lv_iload_n hx hb d_M_goes_63 rfl (lv_at hl 2 rfl) ?_
  have ⟨h50, hf⟩ := gd_e hf
  have ⟨h51, hf⟩ := gd_e hf
  refine g_iald hx hb hK hR h50 h51 d_M_goes_64 ?_
  refine g_nI hf (fun x52 hf => ?_)
  refine lv_isub hx hb d_M_goes_65 ?_
  refine g_nI hf (fun x53 hf => ?_)
  refine lv_iadd hx hb d_M_goes_66 ?_
  refine g_nI hf (fun x54 hf => ?_)
  refine g_iast hx hb hK hR hS h40 h41 d_M_goes_67 (fun H locs hR hS => ?_)
  refine g_nW hf hR (fun w55 hf hR => ?_)
  refine g_iinc (lv' := fun x56 => [(3, .int x56), (0, .ref (B + a0)), (1, .int a1)]) hf hx hb d_M_goes_68 hl (k := 2) rfl (by decide) (by decide) (fun _ => rfl) (fun x56 ls hf hl => ?_)
  refine lv_goto (tgt := 13) hx hb d_M_goes_71 (by decide) ?_
  exact ih13 a0 a1 x56 w55 _ _ _ hf (lv_sub hl [1, 2, 0] rfl) hR hS
theorem c_M_goes_l13 {r : Int32} {wz : gW} (C : gC p s m args meth c "RidCoppersModel" b_M_goes 4 (some .boolean) D cA oc B) (a0 : Nat) (a1 : Int32) (a3 : Int32) (w : gW) {ls : Array Slot} {H : Heap} {locs : List Loc} (hl : lv_has ls 4 [(0, .ref (B + a0)), (1, .int a1), (3, .int a3)]) (hf : f_M_goes_l13 N a0 a1 a3 w = some (r, wz)) (hR : gRep D cA B w H) (hS : va_S (gA B) s.heap H locs) : W p l e ({ frames := 7, cells := 0, slots := 0, locals := 190 } : Room) s m args below meth c H locs 0 0 (MQ below (gQi D cA B r wz) args s 0 0 (gA B)) (F0 m 13 ls []) := by
  unfold f_M_goes_l13 at hf
  suffices hh : ∀ n : Nat, ∀ (a0 : Nat) (a1 : Int32) (a3 : Int32) (w : gW) (ls : Array Slot) (H : Heap) (locs : List Loc), itr (fun rec (q : Nat × Int32 × Int32 × gW) => f_M_goes_b13 N rec q.1 q.2.1 q.2.2.1 q.2.2.2) n (a0, a1, a3, w) = some (r, wz) → lv_has ls 4 [(0, .ref (B + a0)), (1, .int a1), (3, .int a3)] → gRep D cA B w H → va_S (gA B) s.heap H locs → W p l e ({ frames := 7, cells := 0, slots := 0, locals := 190 } : Room) s m args below meth c H locs 0 0 (MQ below (gQi D cA B r wz) args s 0 0 (gA B)) (F0 m 13 ls []) from hh N a0 a1 a3 w ls H locs hf hl hR hS
  intro n
  induction n with
  | zero => intro a0 a1 a3 w ls H locs hf; cases hf
  | succ n ihn =>
    intro a0 a1 a3 w ls H locs hf hl hR hS
    exact c_M_goes_b13 (N := N) ihn C a0 a1 a3 w hl ((itr_s _ _ _).symm.trans hf) hR hS
set_option maxRecDepth 20000 in
theorem c_M_goes_b0 {r : Int32} {wz : gW} (C : gC p s m args meth c "RidCoppersModel" b_M_goes 4 (some .boolean) D cA oc B) (a0 : Nat) (a1 : Int32) (a2 : Int32) (w : gW) {ls : Array Slot} {H : Heap} {locs : List Loc} (hl : lv_has ls 4 [(0, .ref (B + a0)), (1, .int a1), (2, .int a2)]) (hf : f_M_goes_b0 N a0 a1 a2 w = some (r, wz)) (hR : gRep D cA B w H) (hS : va_S (gA B) s.heap H locs) : W p l e ({ frames := 7, cells := 0, slots := 0, locals := 190 } : Room) s m args below meth c H locs 0 0 (MQ below (gQi D cA B r wz) args s 0 0 (gA B)) (F0 m 0 ls []) := by
  obtain ⟨hx, hb, hml, hown, hts, hr, hlocks, hK, hBs⟩ := id C
  unfold f_M_goes_b0 at hf
  refine lv_aload_n hx hb d_M_goes_0 rfl (lv_at hl 0 rfl) ?_
  refine lv_iload_n hx hb d_M_goes_1 rfl (lv_at hl 1 rfl) ?_
  refine lv_iload_n hx hb d_M_goes_2 rfl (lv_at hl 2 rfl) ?_
  have ⟨h4, hf⟩ := gd_e hf
  have ⟨x1, w2, h3, hf⟩ := kl_e hf
  refine g_ki0 (g_rV (As := [.int a1, .int a2]) (rest := []) hx hb hml hown hts hK hR hS (c_M_chooses l D cA oc B N a0 a1 a2 w h3) I_M_chooses m_1352 mp_56 (gRecv hK hR (ci := 12) rfl h4) rfl rfl (Nat.le_of_ble_eq_true rfl) hl.1 ⟨Nat.le_of_ble_eq_true rfl, Nat.le_of_ble_eq_true rfl⟩ ⟨Nat.le_of_ble_eq_true rfl, Nat.le_of_ble_eq_true rfl⟩ d_M_goes_3) hS (fun H locs hR hS => ?_)
  refine lv_if_ne (tgt := 11) hx hb d_M_goes_6 (by decide) (fun hc => ?_) (fun hc => ?_)
  · have hf := cd_f hc hf
    refine lv_iconst (v := 0) hx hb d_M_goes_11 (by decide) ?_
    refine lv_istore_n (lv' := [(3, .int 0), (0, .ref (B + a0)), (1, .int a1), (2, .int a2)]) hx hb d_M_goes_12 rfl hl (by decide) rfl (fun ls hl => ?_)
    exact c_M_goes_l13 C a0 a1 0 w2 (lv_sub hl [1, 2, 0] rfl) hf hR hS
  have hf := cd_t hc hf
  refine lv_iconst (v := 0) hx hb d_M_goes_9 (by decide) ?_
  exact g_iret hx hb hr hlocks hR hS hf rfl d_M_goes_10
theorem c_M_goes (l : Launch) (D : va_G) (cA : Nat → ClassId) (oc : gO) (B N : Nat) (a0 : Nat) (a1 : Int32) (a2 : Int32) (w : gW) {wz : gW} {r : Int32} (hf : f_M_goes N a0 a1 a2 w = some (r, wz)) : Met l y_M_goes (Cond.code y_M_goes b_M_goes 4 (some .boolean) :: lw_good) ({ frames := 7, cells := 0, slots := 0, locals := 190 } : Room) (gPre D cA oc B [.ref (B + a0), .int a1, .int a2] w) (gQi D cA B r wz) 0 0 (gA B) := by
  refine Met.ofW (cc := b_M_goes) (maxL := 4) (ret := (some .boolean)) (by decide +kernel) rfl ?_
  intro p e s m args below meth c s₁ Bd hml hv
  obtain ⟨hargs, C, hR⟩ := gC.enter (l := l) rfl Bd hml hv
  subst hargs
  have hl := lv_entry ([.ref (B + a0), .int a1, .int a2]) (n := 4) (Nat.le_of_ble_eq_true rfl)
  rw [lg_entry_eq]
  generalize (lg_sl ([.ref (B + a0), .int a1, .int a2]) ++ List.replicate (4 - (lg_sl ([.ref (B + a0), .int a1, .int a2])).length) Slot.unset).toArray = ls at hl ⊢
  have hl : lv_has ls 4 [(0, .ref (B + a0)), (1, .int a1), (2, .int a2)] := hl
  exact c_M_goes_b0 C a0 a1 a2 w (lv_sub hl [0, 1, 2] rfl) hf hR va_S.rf
theorem d_M_pay_0 : decode b_M_pay 0 = .ok (.aload_n 0, 1) := by decide +kernel
theorem d_M_pay_1 : decode b_M_pay 1 = .ok (.iload_n 1, 1) := by decide +kernel
theorem d_M_pay_2 : decode b_M_pay 2 = .ok (.invokevirtual 234, 3) := by decide +kernel
theorem d_M_pay_5 : decode b_M_pay 5 = .ok (.ifCond .ne 5, 3) := by decide +kernel
theorem d_M_pay_8 : decode b_M_pay 8 = .ok (.iconst (-1), 1) := by decide +kernel
theorem d_M_pay_9 : decode b_M_pay 9 = .ok (.ireturn, 1) := by decide +kernel
theorem d_M_pay_10 : decode b_M_pay 10 = .ok (.aload_n 0, 1) := by decide +kernel
theorem d_M_pay_11 : decode b_M_pay 11 = .ok (.iload_n 2, 1) := by decide +kernel
theorem d_M_pay_12 : decode b_M_pay 12 = .ok (.invokevirtual 348, 3) := by decide +kernel
theorem d_M_pay_15 : decode b_M_pay 15 = .ok (.ifCond .ne 6, 3) := by decide +kernel
theorem d_M_pay_18 : decode b_M_pay 18 = .ok (.bipush (-2), 2) := by decide +kernel
theorem d_M_pay_20 : decode b_M_pay 20 = .ok (.ireturn, 1) := by decide +kernel
theorem d_M_pay_21 : decode b_M_pay 21 = .ok (.aload_n 0, 1) := by decide +kernel
theorem d_M_pay_22 : decode b_M_pay 22 = .ok (.iload_n 1, 1) := by decide +kernel
theorem d_M_pay_23 : decode b_M_pay 23 = .ok (.iload_n 2, 1) := by decide +kernel
theorem d_M_pay_24 : decode b_M_pay 24 = .ok (.invokevirtual 351, 3) := by decide +kernel
theorem d_M_pay_27 : decode b_M_pay 27 = .ok (.ifCond .eq 10, 3) := by decide +kernel
theorem d_M_pay_30 : decode b_M_pay 30 = .ok (.aload_n 0, 1) := by decide +kernel
theorem d_M_pay_31 : decode b_M_pay 31 = .ok (.invokevirtual 354, 3) := by decide +kernel
theorem d_M_pay_34 : decode b_M_pay 34 = .ok (.goto 5, 3) := by decide +kernel
theorem d_M_pay_37 : decode b_M_pay 37 = .ok (.bipush (-3), 2) := by decide +kernel
theorem d_M_pay_39 : decode b_M_pay 39 = .ok (.ireturn, 1) := by decide +kernel
set_option maxRecDepth 20000 in
theorem c_M_pay_b0 {r : Int32} {wz : gW} (C : gC p s m args meth c "RidCoppersModel" b_M_pay 3 (some .int) D cA oc B) (a0 : Nat) (a1 : Int32) (a2 : Int32) (w : gW) {ls : Array Slot} {H : Heap} {locs : List Loc} (hl : lv_has ls 3 [(0, .ref (B + a0)), (1, .int a1), (2, .int a2)]) (hf : f_M_pay_b0 N a0 a1 a2 w = some (r, wz)) (hR : gRep D cA B w H) (hS : va_S (gA B) s.heap H locs) : W p l e ({ frames := 8, cells := 0, slots := 0, locals := 213 } : Room) s m args below meth c H locs 0 0 (MQ below (gQi D cA B r wz) args s 0 0 (gA B)) (F0 m 0 ls []) := by
  obtain ⟨hx, hb, hml, hown, hts, hr, hlocks, hK, hBs⟩ := id C
  unfold f_M_pay_b0 at hf
  refine lv_aload_n hx hb d_M_pay_0 rfl (lv_at hl 0 rfl) ?_
  refine lv_iload_n hx hb d_M_pay_1 rfl (lv_at hl 1 rfl) ?_
  have ⟨h4, hf⟩ := gd_e hf
  have ⟨x1, w2, h3, hf⟩ := kl_e hf
  refine g_ki0 (g_rV (As := [.int a1]) (rest := []) hx hb hml hown hts hK hR hS (c_M_isPayer l D cA oc B N a0 a1 w h3) I_M_isPayer m_1212 mp_28 (gRecv hK hR (ci := 12) rfl h4) rfl rfl (Nat.le_of_ble_eq_true rfl) hl.1 ⟨Nat.le_of_ble_eq_true rfl, Nat.le_of_ble_eq_true rfl⟩ ⟨Nat.le_of_ble_eq_true rfl, Nat.le_of_ble_eq_true rfl⟩ d_M_pay_2) hS (fun H locs hR hS => ?_)
  refine lv_if_ne (tgt := 10) hx hb d_M_pay_5 (by decide) (fun hc => ?_) (fun hc => ?_)
  · have hf := cd_f hc hf
    refine lv_aload_n hx hb d_M_pay_10 rfl (lv_at hl 0 rfl) ?_
    refine lv_iload_n hx hb d_M_pay_11 rfl (lv_at hl 2 rfl) ?_
    have ⟨h8, hf⟩ := gd_e hf
    have ⟨x5, w6, h7, hf⟩ := kl_e hf
    refine g_ki0 (g_rV (As := [.int a2]) (rest := []) hx hb hml hown hts hK hR hS (c_M_isPrice l D cA oc B N a0 a2 w2 h7) I_M_isPrice m_1344 mp_54 (gRecv hK hR (ci := 12) rfl h8) rfl rfl (Nat.le_of_ble_eq_true rfl) hl.1 ⟨Nat.le_of_ble_eq_true rfl, Nat.le_of_ble_eq_true rfl⟩ ⟨Nat.le_of_ble_eq_true rfl, Nat.le_of_ble_eq_true rfl⟩ d_M_pay_12) hS (fun H locs hR hS => ?_)
    refine lv_if_ne (tgt := 21) hx hb d_M_pay_15 (by decide) (fun hc => ?_) (fun hc => ?_)
    · have hf := cd_f hc hf
      refine lv_aload_n hx hb d_M_pay_21 rfl (lv_at hl 0 rfl) ?_
      refine lv_iload_n hx hb d_M_pay_22 rfl (lv_at hl 1 rfl) ?_
      refine lv_iload_n hx hb d_M_pay_23 rfl (lv_at hl 2 rfl) ?_
      have ⟨h12, hf⟩ := gd_e hf
      have ⟨x9, w10, h11, hf⟩ := kl_e hf
      refine g_ki0 (g_rV (As := [.int a1, .int a2]) (rest := []) hx hb hml hown hts hK hR hS (c_M_goes l D cA oc B N a0 a1 a2 w6 h11) I_M_goes m_1348 mp_55 (gRecv hK hR (ci := 12) rfl h12) rfl rfl (Nat.le_of_ble_eq_true rfl) hl.1 ⟨Nat.le_of_ble_eq_true rfl, Nat.le_of_ble_eq_true rfl⟩ ⟨Nat.le_of_ble_eq_true rfl, Nat.le_of_ble_eq_true rfl⟩ d_M_pay_24) hS (fun H locs hR hS => ?_)
      refine lv_if_eq (tgt := 37) hx hb d_M_pay_27 (by decide) (fun hc => ?_) (fun hc => ?_)
      · have hf := cd_t hc hf
        refine lv_bipush (v := (-3)) hx hb d_M_pay_37 (by decide) ?_
        exact g_iret hx hb hr hlocks hR hS hf rfl d_M_pay_39
      have hf := cd_f hc hf
      refine lv_aload_n hx hb d_M_pay_30 rfl (lv_at hl 0 rfl) ?_
      have ⟨h16, hf⟩ := gd_e hf
      have ⟨x13, w14, h15, hf⟩ := kl_e hf
      refine g_ki0 (g_rV (As := []) (rest := []) hx hb hml hown hts hK hR hS (c_M_coinsOf l D cA oc B N a0 w10 h15) I_M_coinsOf m_1388 mp_65 (gRecv hK hR (ci := 12) rfl h16) rfl rfl (Nat.le_of_ble_eq_true rfl) hl.1 ⟨Nat.le_of_ble_eq_true rfl, Nat.le_of_ble_eq_true rfl⟩ ⟨Nat.le_of_ble_eq_true rfl, Nat.le_of_ble_eq_true rfl⟩ d_M_pay_31) hS (fun H locs hR hS => ?_)
      refine lv_goto (tgt := 39) hx hb d_M_pay_34 (by decide) ?_
      exact g_iret hx hb hr hlocks hR hS hf rfl d_M_pay_39
    have hf := cd_t hc hf
    refine lv_bipush (v := (-2)) hx hb d_M_pay_18 (by decide) ?_
    exact g_iret hx hb hr hlocks hR hS hf rfl d_M_pay_20
  have hf := cd_t hc hf
  refine lv_iconst (v := (-1)) hx hb d_M_pay_8 (by decide) ?_
  exact g_iret hx hb hr hlocks hR hS hf rfl d_M_pay_9
theorem c_M_pay (l : Launch) (D : va_G) (cA : Nat → ClassId) (oc : gO) (B N : Nat) (a0 : Nat) (a1 : Int32) (a2 : Int32) (w : gW) {wz : gW} {r : Int32} (hf : f_M_pay N a0 a1 a2 w = some (r, wz)) : Met l y_M_pay (Cond.code y_M_pay b_M_pay 3 (some .int) :: lw_good) ({ frames := 8, cells := 0, slots := 0, locals := 213 } : Room) (gPre D cA oc B [.ref (B + a0), .int a1, .int a2] w) (gQi D cA B r wz) 0 0 (gA B) := by
  refine Met.ofW (cc := b_M_pay) (maxL := 3) (ret := (some .int)) (by decide +kernel) rfl ?_
  intro p e s m args below meth c s₁ Bd hml hv
  obtain ⟨hargs, C, hR⟩ := gC.enter (l := l) rfl Bd hml hv
  subst hargs
  have hl := lv_entry ([.ref (B + a0), .int a1, .int a2]) (n := 3) (Nat.le_of_ble_eq_true rfl)
  rw [lg_entry_eq]
  generalize (lg_sl ([.ref (B + a0), .int a1, .int a2]) ++ List.replicate (3 - (lg_sl ([.ref (B + a0), .int a1, .int a2])).length) Slot.unset).toArray = ls at hl ⊢
  have hl : lv_has ls 3 [(0, .ref (B + a0)), (1, .int a1), (2, .int a2)] := hl
  exact c_M_pay_b0 C a0 a1 a2 w (lv_sub hl [0, 1, 2] rfl) hf hR va_S.rf
theorem d_M_save_0 : decode b_M_save 0 = .ok (.iconst 0, 1) := by decide +kernel
theorem d_M_save_1 : decode b_M_save 1 = .ok (.istore_n 1, 1) := by decide +kernel
theorem d_M_save_2 : decode b_M_save 2 = .ok (.iload_n 1, 1) := by decide +kernel
theorem d_M_save_3 : decode b_M_save 3 = .ok (.bipush 24, 2) := by decide +kernel
theorem d_M_save_5 : decode b_M_save 5 = .ok (.if_icmp .ge 21, 3) := by decide +kernel
theorem d_M_save_8 : decode b_M_save 8 = .ok (.aload_n 0, 1) := by decide +kernel
theorem d_M_save_9 : decode b_M_save 9 = .ok (.getfield 117, 3) := by decide +kernel
theorem d_M_save_12 : decode b_M_save 12 = .ok (.iload_n 1, 1) := by decide +kernel
theorem d_M_save_13 : decode b_M_save 13 = .ok (.aload_n 0, 1) := by decide +kernel
theorem d_M_save_14 : decode b_M_save 14 = .ok (.getfield 29, 3) := by decide +kernel
theorem d_M_save_17 : decode b_M_save 17 = .ok (.iload_n 1, 1) := by decide +kernel
theorem d_M_save_18 : decode b_M_save 18 = .ok (.iaload, 1) := by decide +kernel
theorem d_M_save_19 : decode b_M_save 19 = .ok (.iastore, 1) := by decide +kernel
theorem d_M_save_20 : decode b_M_save 20 = .ok (.iinc 1 1, 3) := by decide +kernel
theorem d_M_save_23 : decode b_M_save 23 = .ok (.goto (-21), 3) := by decide +kernel
theorem d_M_save_26 : decode b_M_save 26 = .ok (.iconst 0, 1) := by decide +kernel
theorem d_M_save_27 : decode b_M_save 27 = .ok (.istore_n 1, 1) := by decide +kernel
theorem d_M_save_28 : decode b_M_save 28 = .ok (.iload_n 1, 1) := by decide +kernel
theorem d_M_save_29 : decode b_M_save 29 = .ok (.bipush 6, 2) := by decide +kernel
theorem d_M_save_31 : decode b_M_save 31 = .ok (.if_icmp .ge 21, 3) := by decide +kernel
theorem d_M_save_34 : decode b_M_save 34 = .ok (.aload_n 0, 1) := by decide +kernel
theorem d_M_save_35 : decode b_M_save 35 = .ok (.getfield 120, 3) := by decide +kernel
theorem d_M_save_38 : decode b_M_save 38 = .ok (.iload_n 1, 1) := by decide +kernel
theorem d_M_save_39 : decode b_M_save 39 = .ok (.aload_n 0, 1) := by decide +kernel
theorem d_M_save_40 : decode b_M_save 40 = .ok (.getfield 32, 3) := by decide +kernel
theorem d_M_save_43 : decode b_M_save 43 = .ok (.iload_n 1, 1) := by decide +kernel
theorem d_M_save_44 : decode b_M_save 44 = .ok (.iaload, 1) := by decide +kernel
theorem d_M_save_45 : decode b_M_save 45 = .ok (.iastore, 1) := by decide +kernel
theorem d_M_save_46 : decode b_M_save 46 = .ok (.iinc 1 1, 3) := by decide +kernel
theorem d_M_save_49 : decode b_M_save 49 = .ok (.goto (-21), 3) := by decide +kernel
theorem d_M_save_52 : decode b_M_save 52 = .ok (.iconst 0, 1) := by decide +kernel
theorem d_M_save_53 : decode b_M_save 53 = .ok (.istore_n 1, 1) := by decide +kernel
theorem d_M_save_54 : decode b_M_save 54 = .ok (.iload_n 1, 1) := by decide +kernel
theorem d_M_save_55 : decode b_M_save 55 = .ok (.iconst 4, 1) := by decide +kernel
theorem d_M_save_56 : decode b_M_save 56 = .ok (.if_icmp .ge 21, 3) := by decide +kernel
theorem d_M_save_59 : decode b_M_save 59 = .ok (.aload_n 0, 1) := by decide +kernel
theorem d_M_save_60 : decode b_M_save 60 = .ok (.getfield 123, 3) := by decide +kernel
theorem d_M_save_63 : decode b_M_save 63 = .ok (.iload_n 1, 1) := by decide +kernel
theorem d_M_save_64 : decode b_M_save 64 = .ok (.aload_n 0, 1) := by decide +kernel
theorem d_M_save_65 : decode b_M_save 65 = .ok (.getfield 23, 3) := by decide +kernel
theorem d_M_save_68 : decode b_M_save 68 = .ok (.iload_n 1, 1) := by decide +kernel
theorem d_M_save_69 : decode b_M_save 69 = .ok (.iaload, 1) := by decide +kernel
theorem d_M_save_70 : decode b_M_save 70 = .ok (.iastore, 1) := by decide +kernel
theorem d_M_save_71 : decode b_M_save 71 = .ok (.iinc 1 1, 3) := by decide +kernel
theorem d_M_save_74 : decode b_M_save 74 = .ok (.goto (-20), 3) := by decide +kernel
theorem d_M_save_77 : decode b_M_save 77 = .ok (.return_, 1) := by decide +kernel
set_option maxRecDepth 20000 in
theorem c_M_save_b54 {r : Unit} {wz : gW} {rec54 : Nat × Int32 × gW → Option (Unit × gW)} (ih54 : ∀ (a0 : Nat) (a1 : Int32) (w : gW) (ls : Array Slot) (H : Heap) (locs : List Loc), rec54 (a0, a1, w) = some (r, wz) → lv_has ls 2 [(0, .ref (B + a0)), (1, .int a1)] → gRep D cA B w H → va_S (gA B) s.heap H locs → W p l e ({ frames := 1, cells := 0, slots := 0, locals := 40 } : Room) s m args below meth c H locs 0 0 (MQ below (gQv D cA B r wz) args s 0 0 (gA B)) (F0 m 54 ls [])) (C : gC p s m args meth c "RidCoppersModel" b_M_save 2 none D cA oc B) (a0 : Nat) (a1 : Int32) (w : gW) {ls : Array Slot} {H : Heap} {locs : List Loc} (hl : lv_has ls 2 [(0, .ref (B + a0)), (1, .int a1)]) (hf : f_M_save_b54 N rec54 a0 a1 w = some (r, wz)) (hR : gRep D cA B w H) (hS : va_S (gA B) s.heap H locs) : W p l e ({ frames := 1, cells := 0, slots := 0, locals := 40 } : Room) s m args below meth c H locs 0 0 (MQ below (gQv D cA B r wz) args s 0 0 (gA B)) (F0 m 54 ls []) := by
  obtain ⟨hx, hb, hml, hown, hts, hr, hlocks, hK, hBs⟩ := id C
  unfold f_M_save_b54 at hf
  refine lv_iload_n hx hb d_M_save_54 rfl (lv_at hl 1 rfl) ?_
  refine lv_iconst (v := 4) hx hb d_M_save_55 (by decide) ?_
  refine lv_icmp_ge (tgt := 77) hx hb d_M_save_56 (by decide) (fun hc => ?_) (fun hc => ?_)
  · have hf := cd_t hc hf
    exact g_vret hx hb hr hlocks hR hS hf d_M_save_77
  have hf := cd_f hc hf
  refine lv_aload_n hx hb d_M_save_59 rfl (lv_at hl 0 rfl) ?_
  have ⟨h1, hf⟩ := gd_e hf
  have ⟨x2, h3, hf⟩ := rr_e hf
  refine g_getR hx hb hts hown hK hR fl_M_123 (fun _ => rfl) h1 h3 d_M_save_60 ?_
  refine lv_iload_n hx hb d_M_save_63 rfl (lv_at hl 1 rfl) ?_
  refine lv_aload_n hx hb d_M_save_64 rfl (lv_at hl 0 rfl) ?_
  have ⟨x4, h5, hf⟩ := rr_e hf
  refine g_getR hx hb hts hown hK hR fl_M_23 (fun _ => rfl) h1 h5 d_M_save_65 ?_
  refine lv_iload_n hx hb d_M_save_68 rfl (lv_at hl 1 rfl) ?_
  have ⟨h6, hf⟩ := gd_e hf
  have ⟨h7, hf⟩ := gd_e hf
  refine g_iald hx hb hK hR h6 h7 d_M_save_69 ?_
  refine g_nI hf (fun x8 hf => ?_)
  have ⟨h9, hf⟩ := gd_e hf
  have ⟨h10, hf⟩ := gd_e hf
  refine g_iast hx hb hK hR hS h9 h10 d_M_save_70 (fun H locs hR hS => ?_)
  refine g_nW hf hR (fun w11 hf hR => ?_)
  refine g_iinc (lv' := fun x12 => [(1, .int x12), (0, .ref (B + a0))]) hf hx hb d_M_save_71 hl (k := 1) rfl (by decide) (by decide) (fun _ => rfl) (fun x12 ls hf hl => ?_)
  refine lv_goto (tgt := 54) hx hb d_M_save_74 (by decide) ?_
  exact ih54 a0 x12 w11 _ _ _ hf (lv_sub hl [1, 0] rfl) hR hS
theorem c_M_save_l54 {r : Unit} {wz : gW} (C : gC p s m args meth c "RidCoppersModel" b_M_save 2 none D cA oc B) (a0 : Nat) (a1 : Int32) (w : gW) {ls : Array Slot} {H : Heap} {locs : List Loc} (hl : lv_has ls 2 [(0, .ref (B + a0)), (1, .int a1)]) (hf : f_M_save_l54 N a0 a1 w = some (r, wz)) (hR : gRep D cA B w H) (hS : va_S (gA B) s.heap H locs) : W p l e ({ frames := 1, cells := 0, slots := 0, locals := 40 } : Room) s m args below meth c H locs 0 0 (MQ below (gQv D cA B r wz) args s 0 0 (gA B)) (F0 m 54 ls []) := by
  unfold f_M_save_l54 at hf
  suffices hh : ∀ n : Nat, ∀ (a0 : Nat) (a1 : Int32) (w : gW) (ls : Array Slot) (H : Heap) (locs : List Loc), itr (fun rec (q : Nat × Int32 × gW) => f_M_save_b54 N rec q.1 q.2.1 q.2.2) n (a0, a1, w) = some (r, wz) → lv_has ls 2 [(0, .ref (B + a0)), (1, .int a1)] → gRep D cA B w H → va_S (gA B) s.heap H locs → W p l e ({ frames := 1, cells := 0, slots := 0, locals := 40 } : Room) s m args below meth c H locs 0 0 (MQ below (gQv D cA B r wz) args s 0 0 (gA B)) (F0 m 54 ls []) from hh N a0 a1 w ls H locs hf hl hR hS
  intro n
  induction n with
  | zero => intro a0 a1 w ls H locs hf; cases hf
  | succ n ihn =>
    intro a0 a1 w ls H locs hf hl hR hS
    exact c_M_save_b54 (N := N) ihn C a0 a1 w hl ((itr_s _ _ _).symm.trans hf) hR hS
set_option maxRecDepth 20000 in
theorem c_M_save_b28 {r : Unit} {wz : gW} {rec28 : Nat × Int32 × gW → Option (Unit × gW)} (ih28 : ∀ (a0 : Nat) (a1 : Int32) (w : gW) (ls : Array Slot) (H : Heap) (locs : List Loc), rec28 (a0, a1, w) = some (r, wz) → lv_has ls 2 [(0, .ref (B + a0)), (1, .int a1)] → gRep D cA B w H → va_S (gA B) s.heap H locs → W p l e ({ frames := 1, cells := 0, slots := 0, locals := 40 } : Room) s m args below meth c H locs 0 0 (MQ below (gQv D cA B r wz) args s 0 0 (gA B)) (F0 m 28 ls [])) (C : gC p s m args meth c "RidCoppersModel" b_M_save 2 none D cA oc B) (a0 : Nat) (a1 : Int32) (w : gW) {ls : Array Slot} {H : Heap} {locs : List Loc} (hl : lv_has ls 2 [(0, .ref (B + a0)), (1, .int a1)]) (hf : f_M_save_b28 N rec28 a0 a1 w = some (r, wz)) (hR : gRep D cA B w H) (hS : va_S (gA B) s.heap H locs) : W p l e ({ frames := 1, cells := 0, slots := 0, locals := 40 } : Room) s m args below meth c H locs 0 0 (MQ below (gQv D cA B r wz) args s 0 0 (gA B)) (F0 m 28 ls []) := by
  obtain ⟨hx, hb, hml, hown, hts, hr, hlocks, hK, hBs⟩ := id C
  unfold f_M_save_b28 at hf
  refine lv_iload_n hx hb d_M_save_28 rfl (lv_at hl 1 rfl) ?_
  refine lv_bipush (v := 6) hx hb d_M_save_29 (by decide) ?_
  refine lv_icmp_ge (tgt := 52) hx hb d_M_save_31 (by decide) (fun hc => ?_) (fun hc => ?_)
  · have hf := cd_t hc hf
    refine lv_iconst (v := 0) hx hb d_M_save_52 (by decide) ?_
    refine lv_istore_n (lv' := [(1, .int 0), (0, .ref (B + a0))]) hx hb d_M_save_53 rfl hl (by decide) rfl (fun ls hl => ?_)
    exact c_M_save_l54 C a0 0 w (lv_sub hl [1, 0] rfl) hf hR hS
  have hf := cd_f hc hf
  refine lv_aload_n hx hb d_M_save_34 rfl (lv_at hl 0 rfl) ?_
  have ⟨h13, hf⟩ := gd_e hf
  have ⟨x14, h15, hf⟩ := rr_e hf
  refine g_getR hx hb hts hown hK hR fl_M_120 (fun _ => rfl) h13 h15 d_M_save_35 ?_
  refine lv_iload_n hx hb d_M_save_38 rfl (lv_at hl 1 rfl) ?_
  refine lv_aload_n hx hb d_M_save_39 rfl (lv_at hl 0 rfl) ?_
  have ⟨x16, h17, hf⟩ := rr_e hf
  refine g_getR hx hb hts hown hK hR fl_M_32 (fun _ => rfl) h13 h17 d_M_save_40 ?_
  refine lv_iload_n hx hb d_M_save_43 rfl (lv_at hl 1 rfl) ?_
  have ⟨h18, hf⟩ := gd_e hf
  have ⟨h19, hf⟩ := gd_e hf
  refine g_iald hx hb hK hR h18 h19 d_M_save_44 ?_
  refine g_nI hf (fun x20 hf => ?_)
  have ⟨h21, hf⟩ := gd_e hf
  have ⟨h22, hf⟩ := gd_e hf
  refine g_iast hx hb hK hR hS h21 h22 d_M_save_45 (fun H locs hR hS => ?_)
  refine g_nW hf hR (fun w23 hf hR => ?_)
  refine g_iinc (lv' := fun x24 => [(1, .int x24), (0, .ref (B + a0))]) hf hx hb d_M_save_46 hl (k := 1) rfl (by decide) (by decide) (fun _ => rfl) (fun x24 ls hf hl => ?_)
  refine lv_goto (tgt := 28) hx hb d_M_save_49 (by decide) ?_
  exact ih28 a0 x24 w23 _ _ _ hf (lv_sub hl [1, 0] rfl) hR hS
theorem c_M_save_l28 {r : Unit} {wz : gW} (C : gC p s m args meth c "RidCoppersModel" b_M_save 2 none D cA oc B) (a0 : Nat) (a1 : Int32) (w : gW) {ls : Array Slot} {H : Heap} {locs : List Loc} (hl : lv_has ls 2 [(0, .ref (B + a0)), (1, .int a1)]) (hf : f_M_save_l28 N a0 a1 w = some (r, wz)) (hR : gRep D cA B w H) (hS : va_S (gA B) s.heap H locs) : W p l e ({ frames := 1, cells := 0, slots := 0, locals := 40 } : Room) s m args below meth c H locs 0 0 (MQ below (gQv D cA B r wz) args s 0 0 (gA B)) (F0 m 28 ls []) := by
  unfold f_M_save_l28 at hf
  suffices hh : ∀ n : Nat, ∀ (a0 : Nat) (a1 : Int32) (w : gW) (ls : Array Slot) (H : Heap) (locs : List Loc), itr (fun rec (q : Nat × Int32 × gW) => f_M_save_b28 N rec q.1 q.2.1 q.2.2) n (a0, a1, w) = some (r, wz) → lv_has ls 2 [(0, .ref (B + a0)), (1, .int a1)] → gRep D cA B w H → va_S (gA B) s.heap H locs → W p l e ({ frames := 1, cells := 0, slots := 0, locals := 40 } : Room) s m args below meth c H locs 0 0 (MQ below (gQv D cA B r wz) args s 0 0 (gA B)) (F0 m 28 ls []) from hh N a0 a1 w ls H locs hf hl hR hS
  intro n
  induction n with
  | zero => intro a0 a1 w ls H locs hf; cases hf
  | succ n ihn =>
    intro a0 a1 w ls H locs hf hl hR hS
    exact c_M_save_b28 (N := N) ihn C a0 a1 w hl ((itr_s _ _ _).symm.trans hf) hR hS
set_option maxRecDepth 20000 in
theorem c_M_save_b2 {r : Unit} {wz : gW} {rec2 : Nat × Int32 × gW → Option (Unit × gW)} (ih2 : ∀ (a0 : Nat) (a1 : Int32) (w : gW) (ls : Array Slot) (H : Heap) (locs : List Loc), rec2 (a0, a1, w) = some (r, wz) → lv_has ls 2 [(0, .ref (B + a0)), (1, .int a1)] → gRep D cA B w H → va_S (gA B) s.heap H locs → W p l e ({ frames := 1, cells := 0, slots := 0, locals := 40 } : Room) s m args below meth c H locs 0 0 (MQ below (gQv D cA B r wz) args s 0 0 (gA B)) (F0 m 2 ls [])) (C : gC p s m args meth c "RidCoppersModel" b_M_save 2 none D cA oc B) (a0 : Nat) (a1 : Int32) (w : gW) {ls : Array Slot} {H : Heap} {locs : List Loc} (hl : lv_has ls 2 [(0, .ref (B + a0)), (1, .int a1)]) (hf : f_M_save_b2 N rec2 a0 a1 w = some (r, wz)) (hR : gRep D cA B w H) (hS : va_S (gA B) s.heap H locs) : W p l e ({ frames := 1, cells := 0, slots := 0, locals := 40 } : Room) s m args below meth c H locs 0 0 (MQ below (gQv D cA B r wz) args s 0 0 (gA B)) (F0 m 2 ls []) := by
  obtain ⟨hx, hb, hml, hown, hts, hr, hlocks, hK, hBs⟩ := id C
  unfold f_M_save_b2 at hf
  refine lv_iload_n hx hb d_M_save_2 rfl (lv_at hl 1 rfl) ?_
  refine lv_bipush (v := 24) hx hb d_M_save_3 (by decide) ?_
  refine lv_icmp_ge (tgt := 26) hx hb d_M_save_5 (by decide) (fun hc => ?_) (fun hc => ?_)
  · have hf := cd_t hc hf
    refine lv_iconst (v := 0) hx hb d_M_save_26 (by decide) ?_
    refine lv_istore_n (lv' := [(1, .int 0), (0, .ref (B + a0))]) hx hb d_M_save_27 rfl hl (by decide) rfl (fun ls hl => ?_)
    exact c_M_save_l28 C a0 0 w (lv_sub hl [1, 0] rfl) hf hR hS
  have hf := cd_f hc hf
  refine lv_aload_n hx hb d_M_save_8 rfl (lv_at hl 0 rfl) ?_
  have ⟨h25, hf⟩ := gd_e hf
  have ⟨x26, h27, hf⟩ := rr_e hf
  refine g_getR hx hb hts hown hK hR fl_M_117 (fun _ => rfl) h25 h27 d_M_save_9 ?_
  refine lv_iload_n hx hb d_M_save_12 rfl (lv_at hl 1 rfl) ?_
  refine lv_aload_n hx hb d_M_save_13 rfl (lv_at hl 0 rfl) ?_
  have ⟨x28, h29, hf⟩ := rr_e hf
  refine g_getR hx hb hts hown hK hR fl_M_29 (fun _ => rfl) h25 h29 d_M_save_14 ?_
  refine lv_iload_n hx hb d_M_save_17 rfl (lv_at hl 1 rfl) ?_
  have ⟨h30, hf⟩ := gd_e hf
  have ⟨h31, hf⟩ := gd_e hf
  refine g_iald hx hb hK hR h30 h31 d_M_save_18 ?_
  refine g_nI hf (fun x32 hf => ?_)
  have ⟨h33, hf⟩ := gd_e hf
  have ⟨h34, hf⟩ := gd_e hf
  refine g_iast hx hb hK hR hS h33 h34 d_M_save_19 (fun H locs hR hS => ?_)
  refine g_nW hf hR (fun w35 hf hR => ?_)
  refine g_iinc (lv' := fun x36 => [(1, .int x36), (0, .ref (B + a0))]) hf hx hb d_M_save_20 hl (k := 1) rfl (by decide) (by decide) (fun _ => rfl) (fun x36 ls hf hl => ?_)
  refine lv_goto (tgt := 2) hx hb d_M_save_23 (by decide) ?_
  exact ih2 a0 x36 w35 _ _ _ hf (lv_sub hl [1, 0] rfl) hR hS
theorem c_M_save_l2 {r : Unit} {wz : gW} (C : gC p s m args meth c "RidCoppersModel" b_M_save 2 none D cA oc B) (a0 : Nat) (a1 : Int32) (w : gW) {ls : Array Slot} {H : Heap} {locs : List Loc} (hl : lv_has ls 2 [(0, .ref (B + a0)), (1, .int a1)]) (hf : f_M_save_l2 N a0 a1 w = some (r, wz)) (hR : gRep D cA B w H) (hS : va_S (gA B) s.heap H locs) : W p l e ({ frames := 1, cells := 0, slots := 0, locals := 40 } : Room) s m args below meth c H locs 0 0 (MQ below (gQv D cA B r wz) args s 0 0 (gA B)) (F0 m 2 ls []) := by
  unfold f_M_save_l2 at hf
  suffices hh : ∀ n : Nat, ∀ (a0 : Nat) (a1 : Int32) (w : gW) (ls : Array Slot) (H : Heap) (locs : List Loc), itr (fun rec (q : Nat × Int32 × gW) => f_M_save_b2 N rec q.1 q.2.1 q.2.2) n (a0, a1, w) = some (r, wz) → lv_has ls 2 [(0, .ref (B + a0)), (1, .int a1)] → gRep D cA B w H → va_S (gA B) s.heap H locs → W p l e ({ frames := 1, cells := 0, slots := 0, locals := 40 } : Room) s m args below meth c H locs 0 0 (MQ below (gQv D cA B r wz) args s 0 0 (gA B)) (F0 m 2 ls []) from hh N a0 a1 w ls H locs hf hl hR hS
  intro n
  induction n with
  | zero => intro a0 a1 w ls H locs hf; cases hf
  | succ n ihn =>
    intro a0 a1 w ls H locs hf hl hR hS
    exact c_M_save_b2 (N := N) ihn C a0 a1 w hl ((itr_s _ _ _).symm.trans hf) hR hS
set_option maxRecDepth 20000 in
theorem c_M_save_b0 {r : Unit} {wz : gW} (C : gC p s m args meth c "RidCoppersModel" b_M_save 2 none D cA oc B) (a0 : Nat) (w : gW) {ls : Array Slot} {H : Heap} {locs : List Loc} (hl : lv_has ls 2 [(0, .ref (B + a0))]) (hf : f_M_save_b0 N a0 w = some (r, wz)) (hR : gRep D cA B w H) (hS : va_S (gA B) s.heap H locs) : W p l e ({ frames := 1, cells := 0, slots := 0, locals := 40 } : Room) s m args below meth c H locs 0 0 (MQ below (gQv D cA B r wz) args s 0 0 (gA B)) (F0 m 0 ls []) := by
  obtain ⟨hx, hb, hml, hown, hts, hr, hlocks, hK, hBs⟩ := id C
  unfold f_M_save_b0 at hf
  refine lv_iconst (v := 0) hx hb d_M_save_0 (by decide) ?_
  refine lv_istore_n (lv' := [(1, .int 0), (0, .ref (B + a0))]) hx hb d_M_save_1 rfl hl (by decide) rfl (fun ls hl => ?_)
  exact c_M_save_l2 C a0 0 w (lv_sub hl [1, 0] rfl) hf hR hS
theorem c_M_save (l : Launch) (D : va_G) (cA : Nat → ClassId) (oc : gO) (B N : Nat) (a0 : Nat) (w : gW) {wz : gW} {r : Unit} (hf : f_M_save N a0 w = some (r, wz)) : Met l y_M_save (Cond.code y_M_save b_M_save 2 none :: lw_good) ({ frames := 1, cells := 0, slots := 0, locals := 40 } : Room) (gPre D cA oc B [.ref (B + a0)] w) (gQv D cA B r wz) 0 0 (gA B) := by
  refine Met.ofW (cc := b_M_save) (maxL := 2) (ret := none) (by decide +kernel) rfl ?_
  intro p e s m args below meth c s₁ Bd hml hv
  obtain ⟨hargs, C, hR⟩ := gC.enter (l := l) rfl Bd hml hv
  subst hargs
  have hl := lv_entry ([.ref (B + a0)]) (n := 2) (Nat.le_of_ble_eq_true rfl)
  rw [lg_entry_eq]
  generalize (lg_sl ([.ref (B + a0)]) ++ List.replicate (2 - (lg_sl ([.ref (B + a0)])).length) Slot.unset).toArray = ls at hl ⊢
  have hl : lv_has ls 2 [(0, .ref (B + a0))] := hl
  exact c_M_save_b0 C a0 w (lv_sub hl [0] rfl) hf hR va_S.rf
theorem d_M_putBack_0 : decode b_M_putBack 0 = .ok (.iconst 0, 1) := by decide +kernel
theorem d_M_putBack_1 : decode b_M_putBack 1 = .ok (.istore_n 1, 1) := by decide +kernel
theorem d_M_putBack_2 : decode b_M_putBack 2 = .ok (.iload_n 1, 1) := by decide +kernel
theorem d_M_putBack_3 : decode b_M_putBack 3 = .ok (.bipush 24, 2) := by decide +kernel
theorem d_M_putBack_5 : decode b_M_putBack 5 = .ok (.if_icmp .ge 21, 3) := by decide +kernel
theorem d_M_putBack_8 : decode b_M_putBack 8 = .ok (.aload_n 0, 1) := by decide +kernel
theorem d_M_putBack_9 : decode b_M_putBack 9 = .ok (.getfield 29, 3) := by decide +kernel
theorem d_M_putBack_12 : decode b_M_putBack 12 = .ok (.iload_n 1, 1) := by decide +kernel
theorem d_M_putBack_13 : decode b_M_putBack 13 = .ok (.aload_n 0, 1) := by decide +kernel
theorem d_M_putBack_14 : decode b_M_putBack 14 = .ok (.getfield 117, 3) := by decide +kernel
theorem d_M_putBack_17 : decode b_M_putBack 17 = .ok (.iload_n 1, 1) := by decide +kernel
theorem d_M_putBack_18 : decode b_M_putBack 18 = .ok (.iaload, 1) := by decide +kernel
theorem d_M_putBack_19 : decode b_M_putBack 19 = .ok (.iastore, 1) := by decide +kernel
theorem d_M_putBack_20 : decode b_M_putBack 20 = .ok (.iinc 1 1, 3) := by decide +kernel
theorem d_M_putBack_23 : decode b_M_putBack 23 = .ok (.goto (-21), 3) := by decide +kernel
theorem d_M_putBack_26 : decode b_M_putBack 26 = .ok (.iconst 0, 1) := by decide +kernel
theorem d_M_putBack_27 : decode b_M_putBack 27 = .ok (.istore_n 1, 1) := by decide +kernel
theorem d_M_putBack_28 : decode b_M_putBack 28 = .ok (.iload_n 1, 1) := by decide +kernel
theorem d_M_putBack_29 : decode b_M_putBack 29 = .ok (.bipush 6, 2) := by decide +kernel
theorem d_M_putBack_31 : decode b_M_putBack 31 = .ok (.if_icmp .ge 21, 3) := by decide +kernel
theorem d_M_putBack_34 : decode b_M_putBack 34 = .ok (.aload_n 0, 1) := by decide +kernel
theorem d_M_putBack_35 : decode b_M_putBack 35 = .ok (.getfield 32, 3) := by decide +kernel
theorem d_M_putBack_38 : decode b_M_putBack 38 = .ok (.iload_n 1, 1) := by decide +kernel
theorem d_M_putBack_39 : decode b_M_putBack 39 = .ok (.aload_n 0, 1) := by decide +kernel
theorem d_M_putBack_40 : decode b_M_putBack 40 = .ok (.getfield 120, 3) := by decide +kernel
theorem d_M_putBack_43 : decode b_M_putBack 43 = .ok (.iload_n 1, 1) := by decide +kernel
theorem d_M_putBack_44 : decode b_M_putBack 44 = .ok (.iaload, 1) := by decide +kernel
theorem d_M_putBack_45 : decode b_M_putBack 45 = .ok (.iastore, 1) := by decide +kernel
theorem d_M_putBack_46 : decode b_M_putBack 46 = .ok (.iinc 1 1, 3) := by decide +kernel
theorem d_M_putBack_49 : decode b_M_putBack 49 = .ok (.goto (-21), 3) := by decide +kernel
theorem d_M_putBack_52 : decode b_M_putBack 52 = .ok (.iconst 0, 1) := by decide +kernel
theorem d_M_putBack_53 : decode b_M_putBack 53 = .ok (.istore_n 1, 1) := by decide +kernel
theorem d_M_putBack_54 : decode b_M_putBack 54 = .ok (.iload_n 1, 1) := by decide +kernel
theorem d_M_putBack_55 : decode b_M_putBack 55 = .ok (.iconst 4, 1) := by decide +kernel
theorem d_M_putBack_56 : decode b_M_putBack 56 = .ok (.if_icmp .ge 21, 3) := by decide +kernel
theorem d_M_putBack_59 : decode b_M_putBack 59 = .ok (.aload_n 0, 1) := by decide +kernel
theorem d_M_putBack_60 : decode b_M_putBack 60 = .ok (.getfield 23, 3) := by decide +kernel
theorem d_M_putBack_63 : decode b_M_putBack 63 = .ok (.iload_n 1, 1) := by decide +kernel
theorem d_M_putBack_64 : decode b_M_putBack 64 = .ok (.aload_n 0, 1) := by decide +kernel
theorem d_M_putBack_65 : decode b_M_putBack 65 = .ok (.getfield 123, 3) := by decide +kernel
theorem d_M_putBack_68 : decode b_M_putBack 68 = .ok (.iload_n 1, 1) := by decide +kernel
theorem d_M_putBack_69 : decode b_M_putBack 69 = .ok (.iaload, 1) := by decide +kernel
theorem d_M_putBack_70 : decode b_M_putBack 70 = .ok (.iastore, 1) := by decide +kernel
theorem d_M_putBack_71 : decode b_M_putBack 71 = .ok (.iinc 1 1, 3) := by decide +kernel
theorem d_M_putBack_74 : decode b_M_putBack 74 = .ok (.goto (-20), 3) := by decide +kernel
theorem d_M_putBack_77 : decode b_M_putBack 77 = .ok (.return_, 1) := by decide +kernel
set_option maxRecDepth 20000 in
theorem c_M_putBack_b54 {r : Unit} {wz : gW} {rec54 : Nat × Int32 × gW → Option (Unit × gW)} (ih54 : ∀ (a0 : Nat) (a1 : Int32) (w : gW) (ls : Array Slot) (H : Heap) (locs : List Loc), rec54 (a0, a1, w) = some (r, wz) → lv_has ls 2 [(0, .ref (B + a0)), (1, .int a1)] → gRep D cA B w H → va_S (gA B) s.heap H locs → W p l e ({ frames := 1, cells := 0, slots := 0, locals := 40 } : Room) s m args below meth c H locs 0 0 (MQ below (gQv D cA B r wz) args s 0 0 (gA B)) (F0 m 54 ls [])) (C : gC p s m args meth c "RidCoppersModel" b_M_putBack 2 none D cA oc B) (a0 : Nat) (a1 : Int32) (w : gW) {ls : Array Slot} {H : Heap} {locs : List Loc} (hl : lv_has ls 2 [(0, .ref (B + a0)), (1, .int a1)]) (hf : f_M_putBack_b54 N rec54 a0 a1 w = some (r, wz)) (hR : gRep D cA B w H) (hS : va_S (gA B) s.heap H locs) : W p l e ({ frames := 1, cells := 0, slots := 0, locals := 40 } : Room) s m args below meth c H locs 0 0 (MQ below (gQv D cA B r wz) args s 0 0 (gA B)) (F0 m 54 ls []) := by
  obtain ⟨hx, hb, hml, hown, hts, hr, hlocks, hK, hBs⟩ := id C
  unfold f_M_putBack_b54 at hf
  refine lv_iload_n hx hb d_M_putBack_54 rfl (lv_at hl 1 rfl) ?_
  refine lv_iconst (v := 4) hx hb d_M_putBack_55 (by decide) ?_
  refine lv_icmp_ge (tgt := 77) hx hb d_M_putBack_56 (by decide) (fun hc => ?_) (fun hc => ?_)
  · have hf := cd_t hc hf
    exact g_vret hx hb hr hlocks hR hS hf d_M_putBack_77
  have hf := cd_f hc hf
  refine lv_aload_n hx hb d_M_putBack_59 rfl (lv_at hl 0 rfl) ?_
  have ⟨h1, hf⟩ := gd_e hf
  have ⟨x2, h3, hf⟩ := rr_e hf
  refine g_getR hx hb hts hown hK hR fl_M_23 (fun _ => rfl) h1 h3 d_M_putBack_60 ?_
  refine lv_iload_n hx hb d_M_putBack_63 rfl (lv_at hl 1 rfl) ?_
  refine lv_aload_n hx hb d_M_putBack_64 rfl (lv_at hl 0 rfl) ?_
  have ⟨x4, h5, hf⟩ := rr_e hf
  refine g_getR hx hb hts hown hK hR fl_M_123 (fun _ => rfl) h1 h5 d_M_putBack_65 ?_
  refine lv_iload_n hx hb d_M_putBack_68 rfl (lv_at hl 1 rfl) ?_
  have ⟨h6, hf⟩ := gd_e hf
  have ⟨h7, hf⟩ := gd_e hf
  refine g_iald hx hb hK hR h6 h7 d_M_putBack_69 ?_
  refine g_nI hf (fun x8 hf => ?_)
  have ⟨h9, hf⟩ := gd_e hf
  have ⟨h10, hf⟩ := gd_e hf
  refine g_iast hx hb hK hR hS h9 h10 d_M_putBack_70 (fun H locs hR hS => ?_)
  refine g_nW hf hR (fun w11 hf hR => ?_)
  refine g_iinc (lv' := fun x12 => [(1, .int x12), (0, .ref (B + a0))]) hf hx hb d_M_putBack_71 hl (k := 1) rfl (by decide) (by decide) (fun _ => rfl) (fun x12 ls hf hl => ?_)
  refine lv_goto (tgt := 54) hx hb d_M_putBack_74 (by decide) ?_
  exact ih54 a0 x12 w11 _ _ _ hf (lv_sub hl [1, 0] rfl) hR hS
theorem c_M_putBack_l54 {r : Unit} {wz : gW} (C : gC p s m args meth c "RidCoppersModel" b_M_putBack 2 none D cA oc B) (a0 : Nat) (a1 : Int32) (w : gW) {ls : Array Slot} {H : Heap} {locs : List Loc} (hl : lv_has ls 2 [(0, .ref (B + a0)), (1, .int a1)]) (hf : f_M_putBack_l54 N a0 a1 w = some (r, wz)) (hR : gRep D cA B w H) (hS : va_S (gA B) s.heap H locs) : W p l e ({ frames := 1, cells := 0, slots := 0, locals := 40 } : Room) s m args below meth c H locs 0 0 (MQ below (gQv D cA B r wz) args s 0 0 (gA B)) (F0 m 54 ls []) := by
  unfold f_M_putBack_l54 at hf
  suffices hh : ∀ n : Nat, ∀ (a0 : Nat) (a1 : Int32) (w : gW) (ls : Array Slot) (H : Heap) (locs : List Loc), itr (fun rec (q : Nat × Int32 × gW) => f_M_putBack_b54 N rec q.1 q.2.1 q.2.2) n (a0, a1, w) = some (r, wz) → lv_has ls 2 [(0, .ref (B + a0)), (1, .int a1)] → gRep D cA B w H → va_S (gA B) s.heap H locs → W p l e ({ frames := 1, cells := 0, slots := 0, locals := 40 } : Room) s m args below meth c H locs 0 0 (MQ below (gQv D cA B r wz) args s 0 0 (gA B)) (F0 m 54 ls []) from hh N a0 a1 w ls H locs hf hl hR hS
  intro n
  induction n with
  | zero => intro a0 a1 w ls H locs hf; cases hf
  | succ n ihn =>
    intro a0 a1 w ls H locs hf hl hR hS
    exact c_M_putBack_b54 (N := N) ihn C a0 a1 w hl ((itr_s _ _ _).symm.trans hf) hR hS
set_option maxRecDepth 20000 in
theorem c_M_putBack_b28 {r : Unit} {wz : gW} {rec28 : Nat × Int32 × gW → Option (Unit × gW)} (ih28 : ∀ (a0 : Nat) (a1 : Int32) (w : gW) (ls : Array Slot) (H : Heap) (locs : List Loc), rec28 (a0, a1, w) = some (r, wz) → lv_has ls 2 [(0, .ref (B + a0)), (1, .int a1)] → gRep D cA B w H → va_S (gA B) s.heap H locs → W p l e ({ frames := 1, cells := 0, slots := 0, locals := 40 } : Room) s m args below meth c H locs 0 0 (MQ below (gQv D cA B r wz) args s 0 0 (gA B)) (F0 m 28 ls [])) (C : gC p s m args meth c "RidCoppersModel" b_M_putBack 2 none D cA oc B) (a0 : Nat) (a1 : Int32) (w : gW) {ls : Array Slot} {H : Heap} {locs : List Loc} (hl : lv_has ls 2 [(0, .ref (B + a0)), (1, .int a1)]) (hf : f_M_putBack_b28 N rec28 a0 a1 w = some (r, wz)) (hR : gRep D cA B w H) (hS : va_S (gA B) s.heap H locs) : W p l e ({ frames := 1, cells := 0, slots := 0, locals := 40 } : Room) s m args below meth c H locs 0 0 (MQ below (gQv D cA B r wz) args s 0 0 (gA B)) (F0 m 28 ls []) := by
  obtain ⟨hx, hb, hml, hown, hts, hr, hlocks, hK, hBs⟩ := id C
  unfold f_M_putBack_b28 at hf
  refine lv_iload_n hx hb d_M_putBack_28 rfl (lv_at hl 1 rfl) ?_
  refine lv_bipush (v := 6) hx hb d_M_putBack_29 (by decide) ?_
  refine lv_icmp_ge (tgt := 52) hx hb d_M_putBack_31 (by decide) (fun hc => ?_) (fun hc => ?_)
  · have hf := cd_t hc hf
    refine lv_iconst (v := 0) hx hb d_M_putBack_52 (by decide) ?_
    refine lv_istore_n (lv' := [(1, .int 0), (0, .ref (B + a0))]) hx hb d_M_putBack_53 rfl hl (by decide) rfl (fun ls hl => ?_)
    exact c_M_putBack_l54 C a0 0 w (lv_sub hl [1, 0] rfl) hf hR hS
  have hf := cd_f hc hf
  refine lv_aload_n hx hb d_M_putBack_34 rfl (lv_at hl 0 rfl) ?_
  have ⟨h13, hf⟩ := gd_e hf
  have ⟨x14, h15, hf⟩ := rr_e hf
  refine g_getR hx hb hts hown hK hR fl_M_32 (fun _ => rfl) h13 h15 d_M_putBack_35 ?_
  refine lv_iload_n hx hb d_M_putBack_38 rfl (lv_at hl 1 rfl) ?_
  refine lv_aload_n hx hb d_M_putBack_39 rfl (lv_at hl 0 rfl) ?_
  have ⟨x16, h17, hf⟩ := rr_e hf
  refine g_getR hx hb hts hown hK hR fl_M_120 (fun _ => rfl) h13 h17 d_M_putBack_40 ?_
  refine lv_iload_n hx hb d_M_putBack_43 rfl (lv_at hl 1 rfl) ?_
  have ⟨h18, hf⟩ := gd_e hf
  have ⟨h19, hf⟩ := gd_e hf
  refine g_iald hx hb hK hR h18 h19 d_M_putBack_44 ?_
  refine g_nI hf (fun x20 hf => ?_)
  have ⟨h21, hf⟩ := gd_e hf
  have ⟨h22, hf⟩ := gd_e hf
  refine g_iast hx hb hK hR hS h21 h22 d_M_putBack_45 (fun H locs hR hS => ?_)
  refine g_nW hf hR (fun w23 hf hR => ?_)
  refine g_iinc (lv' := fun x24 => [(1, .int x24), (0, .ref (B + a0))]) hf hx hb d_M_putBack_46 hl (k := 1) rfl (by decide) (by decide) (fun _ => rfl) (fun x24 ls hf hl => ?_)
  refine lv_goto (tgt := 28) hx hb d_M_putBack_49 (by decide) ?_
  exact ih28 a0 x24 w23 _ _ _ hf (lv_sub hl [1, 0] rfl) hR hS
theorem c_M_putBack_l28 {r : Unit} {wz : gW} (C : gC p s m args meth c "RidCoppersModel" b_M_putBack 2 none D cA oc B) (a0 : Nat) (a1 : Int32) (w : gW) {ls : Array Slot} {H : Heap} {locs : List Loc} (hl : lv_has ls 2 [(0, .ref (B + a0)), (1, .int a1)]) (hf : f_M_putBack_l28 N a0 a1 w = some (r, wz)) (hR : gRep D cA B w H) (hS : va_S (gA B) s.heap H locs) : W p l e ({ frames := 1, cells := 0, slots := 0, locals := 40 } : Room) s m args below meth c H locs 0 0 (MQ below (gQv D cA B r wz) args s 0 0 (gA B)) (F0 m 28 ls []) := by
  unfold f_M_putBack_l28 at hf
  suffices hh : ∀ n : Nat, ∀ (a0 : Nat) (a1 : Int32) (w : gW) (ls : Array Slot) (H : Heap) (locs : List Loc), itr (fun rec (q : Nat × Int32 × gW) => f_M_putBack_b28 N rec q.1 q.2.1 q.2.2) n (a0, a1, w) = some (r, wz) → lv_has ls 2 [(0, .ref (B + a0)), (1, .int a1)] → gRep D cA B w H → va_S (gA B) s.heap H locs → W p l e ({ frames := 1, cells := 0, slots := 0, locals := 40 } : Room) s m args below meth c H locs 0 0 (MQ below (gQv D cA B r wz) args s 0 0 (gA B)) (F0 m 28 ls []) from hh N a0 a1 w ls H locs hf hl hR hS
  intro n
  induction n with
  | zero => intro a0 a1 w ls H locs hf; cases hf
  | succ n ihn =>
    intro a0 a1 w ls H locs hf hl hR hS
    exact c_M_putBack_b28 (N := N) ihn C a0 a1 w hl ((itr_s _ _ _).symm.trans hf) hR hS
set_option maxRecDepth 20000 in
theorem c_M_putBack_b2 {r : Unit} {wz : gW} {rec2 : Nat × Int32 × gW → Option (Unit × gW)} (ih2 : ∀ (a0 : Nat) (a1 : Int32) (w : gW) (ls : Array Slot) (H : Heap) (locs : List Loc), rec2 (a0, a1, w) = some (r, wz) → lv_has ls 2 [(0, .ref (B + a0)), (1, .int a1)] → gRep D cA B w H → va_S (gA B) s.heap H locs → W p l e ({ frames := 1, cells := 0, slots := 0, locals := 40 } : Room) s m args below meth c H locs 0 0 (MQ below (gQv D cA B r wz) args s 0 0 (gA B)) (F0 m 2 ls [])) (C : gC p s m args meth c "RidCoppersModel" b_M_putBack 2 none D cA oc B) (a0 : Nat) (a1 : Int32) (w : gW) {ls : Array Slot} {H : Heap} {locs : List Loc} (hl : lv_has ls 2 [(0, .ref (B + a0)), (1, .int a1)]) (hf : f_M_putBack_b2 N rec2 a0 a1 w = some (r, wz)) (hR : gRep D cA B w H) (hS : va_S (gA B) s.heap H locs) : W p l e ({ frames := 1, cells := 0, slots := 0, locals := 40 } : Room) s m args below meth c H locs 0 0 (MQ below (gQv D cA B r wz) args s 0 0 (gA B)) (F0 m 2 ls []) := by
  obtain ⟨hx, hb, hml, hown, hts, hr, hlocks, hK, hBs⟩ := id C
  unfold f_M_putBack_b2 at hf
  refine lv_iload_n hx hb d_M_putBack_2 rfl (lv_at hl 1 rfl) ?_
  refine lv_bipush (v := 24) hx hb d_M_putBack_3 (by decide) ?_
  refine lv_icmp_ge (tgt := 26) hx hb d_M_putBack_5 (by decide) (fun hc => ?_) (fun hc => ?_)
  · have hf := cd_t hc hf
    refine lv_iconst (v := 0) hx hb d_M_putBack_26 (by decide) ?_
    refine lv_istore_n (lv' := [(1, .int 0), (0, .ref (B + a0))]) hx hb d_M_putBack_27 rfl hl (by decide) rfl (fun ls hl => ?_)
    exact c_M_putBack_l28 C a0 0 w (lv_sub hl [1, 0] rfl) hf hR hS
  have hf := cd_f hc hf
  refine lv_aload_n hx hb d_M_putBack_8 rfl (lv_at hl 0 rfl) ?_
  have ⟨h25, hf⟩ := gd_e hf
  have ⟨x26, h27, hf⟩ := rr_e hf
  refine g_getR hx hb hts hown hK hR fl_M_29 (fun _ => rfl) h25 h27 d_M_putBack_9 ?_
  refine lv_iload_n hx hb d_M_putBack_12 rfl (lv_at hl 1 rfl) ?_
  refine lv_aload_n hx hb d_M_putBack_13 rfl (lv_at hl 0 rfl) ?_
  have ⟨x28, h29, hf⟩ := rr_e hf
  refine g_getR hx hb hts hown hK hR fl_M_117 (fun _ => rfl) h25 h29 d_M_putBack_14 ?_
  refine lv_iload_n hx hb d_M_putBack_17 rfl (lv_at hl 1 rfl) ?_
  have ⟨h30, hf⟩ := gd_e hf
  have ⟨h31, hf⟩ := gd_e hf
  refine g_iald hx hb hK hR h30 h31 d_M_putBack_18 ?_
  refine g_nI hf (fun x32 hf => ?_)
  have ⟨h33, hf⟩ := gd_e hf
  have ⟨h34, hf⟩ := gd_e hf
  refine g_iast hx hb hK hR hS h33 h34 d_M_putBack_19 (fun H locs hR hS => ?_)
  refine g_nW hf hR (fun w35 hf hR => ?_)
  refine g_iinc (lv' := fun x36 => [(1, .int x36), (0, .ref (B + a0))]) hf hx hb d_M_putBack_20 hl (k := 1) rfl (by decide) (by decide) (fun _ => rfl) (fun x36 ls hf hl => ?_)
  refine lv_goto (tgt := 2) hx hb d_M_putBack_23 (by decide) ?_
  exact ih2 a0 x36 w35 _ _ _ hf (lv_sub hl [1, 0] rfl) hR hS
theorem c_M_putBack_l2 {r : Unit} {wz : gW} (C : gC p s m args meth c "RidCoppersModel" b_M_putBack 2 none D cA oc B) (a0 : Nat) (a1 : Int32) (w : gW) {ls : Array Slot} {H : Heap} {locs : List Loc} (hl : lv_has ls 2 [(0, .ref (B + a0)), (1, .int a1)]) (hf : f_M_putBack_l2 N a0 a1 w = some (r, wz)) (hR : gRep D cA B w H) (hS : va_S (gA B) s.heap H locs) : W p l e ({ frames := 1, cells := 0, slots := 0, locals := 40 } : Room) s m args below meth c H locs 0 0 (MQ below (gQv D cA B r wz) args s 0 0 (gA B)) (F0 m 2 ls []) := by
  unfold f_M_putBack_l2 at hf
  suffices hh : ∀ n : Nat, ∀ (a0 : Nat) (a1 : Int32) (w : gW) (ls : Array Slot) (H : Heap) (locs : List Loc), itr (fun rec (q : Nat × Int32 × gW) => f_M_putBack_b2 N rec q.1 q.2.1 q.2.2) n (a0, a1, w) = some (r, wz) → lv_has ls 2 [(0, .ref (B + a0)), (1, .int a1)] → gRep D cA B w H → va_S (gA B) s.heap H locs → W p l e ({ frames := 1, cells := 0, slots := 0, locals := 40 } : Room) s m args below meth c H locs 0 0 (MQ below (gQv D cA B r wz) args s 0 0 (gA B)) (F0 m 2 ls []) from hh N a0 a1 w ls H locs hf hl hR hS
  intro n
  induction n with
  | zero => intro a0 a1 w ls H locs hf; cases hf
  | succ n ihn =>
    intro a0 a1 w ls H locs hf hl hR hS
    exact c_M_putBack_b2 (N := N) ihn C a0 a1 w hl ((itr_s _ _ _).symm.trans hf) hR hS
set_option maxRecDepth 20000 in
theorem c_M_putBack_b0 {r : Unit} {wz : gW} (C : gC p s m args meth c "RidCoppersModel" b_M_putBack 2 none D cA oc B) (a0 : Nat) (w : gW) {ls : Array Slot} {H : Heap} {locs : List Loc} (hl : lv_has ls 2 [(0, .ref (B + a0))]) (hf : f_M_putBack_b0 N a0 w = some (r, wz)) (hR : gRep D cA B w H) (hS : va_S (gA B) s.heap H locs) : W p l e ({ frames := 1, cells := 0, slots := 0, locals := 40 } : Room) s m args below meth c H locs 0 0 (MQ below (gQv D cA B r wz) args s 0 0 (gA B)) (F0 m 0 ls []) := by
  obtain ⟨hx, hb, hml, hown, hts, hr, hlocks, hK, hBs⟩ := id C
  unfold f_M_putBack_b0 at hf
  refine lv_iconst (v := 0) hx hb d_M_putBack_0 (by decide) ?_
  refine lv_istore_n (lv' := [(1, .int 0), (0, .ref (B + a0))]) hx hb d_M_putBack_1 rfl hl (by decide) rfl (fun ls hl => ?_)
  exact c_M_putBack_l2 C a0 0 w (lv_sub hl [1, 0] rfl) hf hR hS
theorem c_M_putBack (l : Launch) (D : va_G) (cA : Nat → ClassId) (oc : gO) (B N : Nat) (a0 : Nat) (w : gW) {wz : gW} {r : Unit} (hf : f_M_putBack N a0 w = some (r, wz)) : Met l y_M_putBack (Cond.code y_M_putBack b_M_putBack 2 none :: lw_good) ({ frames := 1, cells := 0, slots := 0, locals := 40 } : Room) (gPre D cA oc B [.ref (B + a0)] w) (gQv D cA B r wz) 0 0 (gA B) := by
  refine Met.ofW (cc := b_M_putBack) (maxL := 2) (ret := none) (by decide +kernel) rfl ?_
  intro p e s m args below meth c s₁ Bd hml hv
  obtain ⟨hargs, C, hR⟩ := gC.enter (l := l) rfl Bd hml hv
  subst hargs
  have hl := lv_entry ([.ref (B + a0)]) (n := 2) (Nat.le_of_ble_eq_true rfl)
  rw [lg_entry_eq]
  generalize (lg_sl ([.ref (B + a0)]) ++ List.replicate (2 - (lg_sl ([.ref (B + a0)])).length) Slot.unset).toArray = ls at hl ⊢
  have hl : lv_has ls 2 [(0, .ref (B + a0))] := hl
  exact c_M_putBack_b0 C a0 w (lv_sub hl [0] rfl) hf hR va_S.rf
theorem d_M_could_0 : decode b_M_could 0 = .ok (.aload_n 0, 1) := by decide +kernel
theorem d_M_could_1 : decode b_M_could 1 = .ok (.invokevirtual 357, 3) := by decide +kernel
theorem d_M_could_4 : decode b_M_could 4 = .ok (.aload_n 0, 1) := by decide +kernel
theorem d_M_could_5 : decode b_M_could 5 = .ok (.iload_n 1, 1) := by decide +kernel
theorem d_M_could_6 : decode b_M_could 6 = .ok (.iload_n 2, 1) := by decide +kernel
theorem d_M_could_7 : decode b_M_could 7 = .ok (.invokevirtual 351, 3) := by decide +kernel
theorem d_M_could_10 : decode b_M_could 10 = .ok (.istore_n 3, 1) := by decide +kernel
theorem d_M_could_11 : decode b_M_could 11 = .ok (.aload_n 0, 1) := by decide +kernel
theorem d_M_could_12 : decode b_M_could 12 = .ok (.aload_n 0, 1) := by decide +kernel
theorem d_M_could_13 : decode b_M_could 13 = .ok (.iload_n 1, 1) := by decide +kernel
theorem d_M_could_14 : decode b_M_could 14 = .ok (.invokevirtual 312, 3) := by decide +kernel
theorem d_M_could_17 : decode b_M_could 17 = .ok (.putfield 126, 3) := by decide +kernel
theorem d_M_could_20 : decode b_M_could 20 = .ok (.aload_n 0, 1) := by decide +kernel
theorem d_M_could_21 : decode b_M_could 21 = .ok (.aload_n 0, 1) := by decide +kernel
theorem d_M_could_22 : decode b_M_could 22 = .ok (.iload_n 1, 1) := by decide +kernel
theorem d_M_could_23 : decode b_M_could 23 = .ok (.invokevirtual 315, 3) := by decide +kernel
theorem d_M_could_26 : decode b_M_could 26 = .ok (.putfield 129, 3) := by decide +kernel
theorem d_M_could_29 : decode b_M_could 29 = .ok (.aload_n 0, 1) := by decide +kernel
theorem d_M_could_30 : decode b_M_could 30 = .ok (.invokevirtual 360, 3) := by decide +kernel
theorem d_M_could_33 : decode b_M_could 33 = .ok (.iload_n 3, 1) := by decide +kernel
theorem d_M_could_34 : decode b_M_could 34 = .ok (.ireturn, 1) := by decide +kernel
set_option maxRecDepth 20000 in
theorem c_M_could_b0 {r : Int32} {wz : gW} (C : gC p s m args meth c "RidCoppersModel" b_M_could 4 (some .boolean) D cA oc B) (a0 : Nat) (a1 : Int32) (a2 : Int32) (w : gW) {ls : Array Slot} {H : Heap} {locs : List Loc} (hl : lv_has ls 4 [(0, .ref (B + a0)), (1, .int a1), (2, .int a2)]) (hf : f_M_could_b0 N a0 a1 a2 w = some (r, wz)) (hR : gRep D cA B w H) (hS : va_S (gA B) s.heap H locs) : W p l e ({ frames := 8, cells := 0, slots := 0, locals := 213 } : Room) s m args below meth c H locs 0 0 (MQ below (gQi D cA B r wz) args s 0 0 (gA B)) (F0 m 0 ls []) := by
  obtain ⟨hx, hb, hml, hown, hts, hr, hlocks, hK, hBs⟩ := id C
  unfold f_M_could_b0 at hf
  refine lv_aload_n hx hb d_M_could_0 rfl (lv_at hl 0 rfl) ?_
  have ⟨h4, hf⟩ := gd_e hf
  have ⟨x1, w2, h3, hf⟩ := kl_e hf
  refine g_kv0 (g_rV (As := []) (rest := []) hx hb hml hown hts hK hR hS (c_M_save l D cA oc B N a0 w h3) I_M_save m_1400 mp_67 (gRecv hK hR (ci := 12) rfl h4) rfl rfl (Nat.le_of_ble_eq_true rfl) hl.1 ⟨Nat.le_of_ble_eq_true rfl, Nat.le_of_ble_eq_true rfl⟩ ⟨Nat.le_of_ble_eq_true rfl, Nat.le_of_ble_eq_true rfl⟩ d_M_could_1) hS (fun H locs hR hS => ?_)
  refine lv_aload_n hx hb d_M_could_4 rfl (lv_at hl 0 rfl) ?_
  refine lv_iload_n hx hb d_M_could_5 rfl (lv_at hl 1 rfl) ?_
  refine lv_iload_n hx hb d_M_could_6 rfl (lv_at hl 2 rfl) ?_
  have ⟨h8, hf⟩ := gd_e hf
  have ⟨x5, w6, h7, hf⟩ := kl_e hf
  refine g_ki0 (g_rV (As := [.int a1, .int a2]) (rest := []) hx hb hml hown hts hK hR hS (c_M_goes l D cA oc B N a0 a1 a2 w2 h7) I_M_goes m_1348 mp_55 (gRecv hK hR (ci := 12) rfl h8) rfl rfl (Nat.le_of_ble_eq_true rfl) hl.1 ⟨Nat.le_of_ble_eq_true rfl, Nat.le_of_ble_eq_true rfl⟩ ⟨Nat.le_of_ble_eq_true rfl, Nat.le_of_ble_eq_true rfl⟩ d_M_could_7) hS (fun H locs hR hS => ?_)
  refine lv_istore_n (lv' := [(3, .int x5), (0, .ref (B + a0)), (1, .int a1), (2, .int a2)]) hx hb d_M_could_10 rfl hl (by decide) rfl (fun ls hl => ?_)
  refine lv_aload_n hx hb d_M_could_11 rfl (lv_at hl 1 rfl) ?_
  refine lv_aload_n hx hb d_M_could_12 rfl (lv_at hl 1 rfl) ?_
  refine lv_iload_n hx hb d_M_could_13 rfl (lv_at hl 2 rfl) ?_
  have ⟨h12, hf⟩ := gd_e hf
  have ⟨x9, w10, h11, hf⟩ := kl_e hf
  refine g_ki0 (g_rV (As := [.int a1]) (rest := [.ref (B + a0)]) hx hb hml hown hts hK hR hS (c_M_weight l D cA oc B N a0 a1 w6 h11) I_M_weight m_1320 mp_50 (gRecv hK hR (ci := 12) rfl h12) rfl rfl (Nat.le_of_ble_eq_true rfl) hl.1 ⟨Nat.le_of_ble_eq_true rfl, Nat.le_of_ble_eq_true rfl⟩ ⟨Nat.le_of_ble_eq_true rfl, Nat.le_of_ble_eq_true rfl⟩ d_M_could_14) hS (fun H locs hR hS => ?_)
  have ⟨h13, hf⟩ := gd_e hf
  refine g_putI hx hb hts hown hK hR hS pf_M_126 (fun _ => rfl) rfl rfl h13 d_M_could_17 (fun H locs hR hS => ?_)
  refine g_nW hf hR (fun w14 hf hR => ?_)
  refine lv_aload_n hx hb d_M_could_20 rfl (lv_at hl 1 rfl) ?_
  refine lv_aload_n hx hb d_M_could_21 rfl (lv_at hl 1 rfl) ?_
  refine lv_iload_n hx hb d_M_could_22 rfl (lv_at hl 2 rfl) ?_
  have ⟨h18, hf⟩ := gd_e hf
  have ⟨x15, w16, h17, hf⟩ := kl_e hf
  refine g_ki0 (g_rV (As := [.int a1]) (rest := [.ref (B + a0)]) hx hb hml hown hts hK hR hS (c_M_coins l D cA oc B N a0 a1 w14 h17) I_M_coins m_1328 mp_52 (gRecv hK hR (ci := 12) rfl h18) rfl rfl (Nat.le_of_ble_eq_true rfl) hl.1 ⟨Nat.le_of_ble_eq_true rfl, Nat.le_of_ble_eq_true rfl⟩ ⟨Nat.le_of_ble_eq_true rfl, Nat.le_of_ble_eq_true rfl⟩ d_M_could_23) hS (fun H locs hR hS => ?_)
  have ⟨h19, hf⟩ := gd_e hf
  refine g_putI hx hb hts hown hK hR hS pf_M_129 (fun _ => rfl) rfl rfl h19 d_M_could_26 (fun H locs hR hS => ?_)
  refine g_nW hf hR (fun w20 hf hR => ?_)
  refine lv_aload_n hx hb d_M_could_29 rfl (lv_at hl 1 rfl) ?_
  have ⟨h24, hf⟩ := gd_e hf
  have ⟨x21, w22, h23, hf⟩ := kl_e hf
  refine g_kv0 (g_rV (As := []) (rest := []) hx hb hml hown hts hK hR hS (c_M_putBack l D cA oc B N a0 w20 h23) I_M_putBack m_1404 mp_68 (gRecv hK hR (ci := 12) rfl h24) rfl rfl (Nat.le_of_ble_eq_true rfl) hl.1 ⟨Nat.le_of_ble_eq_true rfl, Nat.le_of_ble_eq_true rfl⟩ ⟨Nat.le_of_ble_eq_true rfl, Nat.le_of_ble_eq_true rfl⟩ d_M_could_30) hS (fun H locs hR hS => ?_)
  refine lv_iload_n hx hb d_M_could_33 rfl (lv_at hl 0 rfl) ?_
  have ⟨h25, hf⟩ := gd_e hf
  exact g_iret hx hb hr hlocks hR hS hf (nb01 h25) d_M_could_34
theorem c_M_could (l : Launch) (D : va_G) (cA : Nat → ClassId) (oc : gO) (B N : Nat) (a0 : Nat) (a1 : Int32) (a2 : Int32) (w : gW) {wz : gW} {r : Int32} (hf : f_M_could N a0 a1 a2 w = some (r, wz)) : Met l y_M_could (Cond.code y_M_could b_M_could 4 (some .boolean) :: lw_good) ({ frames := 8, cells := 0, slots := 0, locals := 213 } : Room) (gPre D cA oc B [.ref (B + a0), .int a1, .int a2] w) (gQi D cA B r wz) 0 0 (gA B) := by
  refine Met.ofW (cc := b_M_could) (maxL := 4) (ret := (some .boolean)) (by decide +kernel) rfl ?_
  intro p e s m args below meth c s₁ Bd hml hv
  obtain ⟨hargs, C, hR⟩ := gC.enter (l := l) rfl Bd hml hv
  subst hargs
  have hl := lv_entry ([.ref (B + a0), .int a1, .int a2]) (n := 4) (Nat.le_of_ble_eq_true rfl)
  rw [lg_entry_eq]
  generalize (lg_sl ([.ref (B + a0), .int a1, .int a2]) ++ List.replicate (4 - (lg_sl ([.ref (B + a0), .int a1, .int a2])).length) Slot.unset).toArray = ls at hl ⊢
  have hl : lv_has ls 4 [(0, .ref (B + a0)), (1, .int a1), (2, .int a2)] := hl
  exact c_M_could_b0 C a0 a1 a2 w (lv_sub hl [0, 1, 2] rfl) hf hR va_S.rf
theorem d_M_would_0 : decode b_M_would 0 = .ok (.aload_n 0, 1) := by decide +kernel
theorem d_M_would_1 : decode b_M_would 1 = .ok (.iload_n 1, 1) := by decide +kernel
theorem d_M_would_2 : decode b_M_would 2 = .ok (.invokevirtual 234, 3) := by decide +kernel
theorem d_M_would_5 : decode b_M_would 5 = .ok (.ifCond .eq 37, 3) := by decide +kernel
theorem d_M_would_8 : decode b_M_would 8 = .ok (.aload_n 0, 1) := by decide +kernel
theorem d_M_would_9 : decode b_M_would 9 = .ok (.iload_n 3, 1) := by decide +kernel
theorem d_M_would_10 : decode b_M_would 10 = .ok (.iconst 0, 1) := by decide +kernel
theorem d_M_would_11 : decode b_M_would 11 = .ok (.iconst 2, 1) := by decide +kernel
theorem d_M_would_12 : decode b_M_would 12 = .ok (.invokevirtual 230, 3) := by decide +kernel
theorem d_M_would_15 : decode b_M_would 15 = .ok (.ifCond .ne 29, 3) := by decide +kernel
theorem d_M_would_18 : decode b_M_would 18 = .ok (.aload_n 0, 1) := by decide +kernel
theorem d_M_would_19 : decode b_M_would 19 = .ok (.iload_n 3, 1) := by decide +kernel
theorem d_M_would_20 : decode b_M_would 20 = .ok (.bipush 10, 2) := by decide +kernel
theorem d_M_would_22 : decode b_M_would 22 = .ok (.bipush 15, 2) := by decide +kernel
theorem d_M_would_24 : decode b_M_would 24 = .ok (.invokevirtual 230, 3) := by decide +kernel
theorem d_M_would_27 : decode b_M_would 27 = .ok (.ifCond .ne 17, 3) := by decide +kernel
theorem d_M_would_30 : decode b_M_would 30 = .ok (.aload_n 0, 1) := by decide +kernel
theorem d_M_would_31 : decode b_M_would 31 = .ok (.iload_n 3, 1) := by decide +kernel
theorem d_M_would_32 : decode b_M_would 32 = .ok (.bipush 20, 2) := by decide +kernel
theorem d_M_would_34 : decode b_M_would 34 = .ok (.bipush 25, 2) := by decide +kernel
theorem d_M_would_36 : decode b_M_would 36 = .ok (.invokevirtual 230, 3) := by decide +kernel
theorem d_M_would_39 : decode b_M_would 39 = .ok (.ifCond .ne 5, 3) := by decide +kernel
theorem d_M_would_42 : decode b_M_would 42 = .ok (.iconst (-1), 1) := by decide +kernel
theorem d_M_would_43 : decode b_M_would 43 = .ok (.ireturn, 1) := by decide +kernel
theorem d_M_would_44 : decode b_M_would 44 = .ok (.aload_n 0, 1) := by decide +kernel
theorem d_M_would_45 : decode b_M_would 45 = .ok (.iload_n 2, 1) := by decide +kernel
theorem d_M_would_46 : decode b_M_would 46 = .ok (.invokevirtual 348, 3) := by decide +kernel
theorem d_M_would_49 : decode b_M_would 49 = .ok (.ifCond .ne 6, 3) := by decide +kernel
theorem d_M_would_52 : decode b_M_would 52 = .ok (.bipush (-2), 2) := by decide +kernel
theorem d_M_would_54 : decode b_M_would 54 = .ok (.ireturn, 1) := by decide +kernel
theorem d_M_would_55 : decode b_M_would 55 = .ok (.aload_n 0, 1) := by decide +kernel
theorem d_M_would_56 : decode b_M_would 56 = .ok (.iload_n 1, 1) := by decide +kernel
theorem d_M_would_57 : decode b_M_would 57 = .ok (.iload_n 2, 1) := by decide +kernel
theorem d_M_would_58 : decode b_M_would 58 = .ok (.invokevirtual 363, 3) := by decide +kernel
theorem d_M_would_61 : decode b_M_would 61 = .ok (.ifCond .ne 6, 3) := by decide +kernel
theorem d_M_would_64 : decode b_M_would 64 = .ok (.bipush (-5), 2) := by decide +kernel
theorem d_M_would_66 : decode b_M_would 66 = .ok (.ireturn, 1) := by decide +kernel
theorem d_M_would_67 : decode b_M_would 67 = .ok (.iload_n 3, 1) := by decide +kernel
theorem d_M_would_68 : decode b_M_would 68 = .ok (.iconst 2, 1) := by decide +kernel
theorem d_M_would_69 : decode b_M_would 69 = .ok (.if_icmp .le 31, 3) := by decide +kernel
theorem d_M_would_72 : decode b_M_would 72 = .ok (.iload_n 3, 1) := by decide +kernel
theorem d_M_would_73 : decode b_M_would 73 = .ok (.bipush 20, 2) := by decide +kernel
theorem d_M_would_75 : decode b_M_would 75 = .ok (.if_icmp .ge 15, 3) := by decide +kernel
theorem d_M_would_78 : decode b_M_would 78 = .ok (.aload_n 0, 1) := by decide +kernel
theorem d_M_would_79 : decode b_M_would 79 = .ok (.getfield 102, 3) := by decide +kernel
theorem d_M_would_82 : decode b_M_would 82 = .ok (.iload_n 3, 1) := by decide +kernel
theorem d_M_would_83 : decode b_M_would 83 = .ok (.bipush 10, 2) := by decide +kernel
theorem d_M_would_85 : decode b_M_would 85 = .ok (.isub, 1) := by decide +kernel
theorem d_M_would_86 : decode b_M_would 86 = .ok (.iaload, 1) := by decide +kernel
theorem d_M_would_87 : decode b_M_would 87 = .ok (.goto 12, 3) := by decide +kernel
theorem d_M_would_90 : decode b_M_would 90 = .ok (.aload_n 0, 1) := by decide +kernel
theorem d_M_would_91 : decode b_M_would 91 = .ok (.getfield 105, 3) := by decide +kernel
theorem d_M_would_94 : decode b_M_would 94 = .ok (.iload_n 3, 1) := by decide +kernel
theorem d_M_would_95 : decode b_M_would 95 = .ok (.bipush 20, 2) := by decide +kernel
theorem d_M_would_97 : decode b_M_would 97 = .ok (.isub, 1) := by decide +kernel
theorem d_M_would_98 : decode b_M_would 98 = .ok (.iaload, 1) := by decide +kernel
theorem d_M_would_99 : decode b_M_would 99 = .ok (.ireturn, 1) := by decide +kernel
theorem d_M_would_100 : decode b_M_would 100 = .ok (.iload_n 3, 1) := by decide +kernel
theorem d_M_would_101 : decode b_M_would 101 = .ok (.ifCond .ne 10, 3) := by decide +kernel
theorem d_M_would_104 : decode b_M_would 104 = .ok (.aload_n 0, 1) := by decide +kernel
theorem d_M_would_105 : decode b_M_would 105 = .ok (.getfield 114, 3) := by decide +kernel
theorem d_M_would_108 : decode b_M_would 108 = .ok (.goto 19, 3) := by decide +kernel
theorem d_M_would_111 : decode b_M_would 111 = .ok (.iload_n 3, 1) := by decide +kernel
theorem d_M_would_112 : decode b_M_would 112 = .ok (.iconst 1, 1) := by decide +kernel
theorem d_M_would_113 : decode b_M_would 113 = .ok (.if_icmp .ne 10, 3) := by decide +kernel
theorem d_M_would_116 : decode b_M_would 116 = .ok (.aload_n 0, 1) := by decide +kernel
theorem d_M_would_117 : decode b_M_would 117 = .ok (.getfield 129, 3) := by decide +kernel
theorem d_M_would_120 : decode b_M_would 120 = .ok (.goto 7, 3) := by decide +kernel
theorem d_M_would_123 : decode b_M_would 123 = .ok (.aload_n 0, 1) := by decide +kernel
theorem d_M_would_124 : decode b_M_would 124 = .ok (.getfield 126, 3) := by decide +kernel
theorem d_M_would_127 : decode b_M_would 127 = .ok (.ireturn, 1) := by decide +kernel
set_option maxRecDepth 20000 in
theorem c_M_would_b44 {r : Int32} {wz : gW} (C : gC p s m args meth c "RidCoppersModel" b_M_would 4 (some .int) D cA oc B) (a0 : Nat) (a1 : Int32) (a2 : Int32) (a3 : Int32) (w : gW) {ls : Array Slot} {H : Heap} {locs : List Loc} (hl : lv_has ls 4 [(0, .ref (B + a0)), (1, .int a1), (2, .int a2), (3, .int a3)]) (hf : f_M_would_b44 N a0 a1 a2 a3 w = some (r, wz)) (hR : gRep D cA B w H) (hS : va_S (gA B) s.heap H locs) : W p l e ({ frames := 9, cells := 0, slots := 0, locals := 236 } : Room) s m args below meth c H locs 0 0 (MQ below (gQi D cA B r wz) args s 0 0 (gA B)) (F0 m 44 ls []) := by
  obtain ⟨hx, hb, hml, hown, hts, hr, hlocks, hK, hBs⟩ := id C
  unfold f_M_would_b44 at hf
  refine lv_aload_n hx hb d_M_would_44 rfl (lv_at hl 0 rfl) ?_
  refine lv_iload_n hx hb d_M_would_45 rfl (lv_at hl 2 rfl) ?_
  have ⟨h12, hf⟩ := gd_e hf
  have ⟨x9, w10, h11, hf⟩ := kl_e hf
  refine g_ki0 (g_rV (As := [.int a2]) (rest := []) hx hb hml hown hts hK hR hS (c_M_isPrice l D cA oc B N a0 a2 w h11) I_M_isPrice m_1344 mp_54 (gRecv hK hR (ci := 12) rfl h12) rfl rfl (Nat.le_of_ble_eq_true rfl) hl.1 ⟨Nat.le_of_ble_eq_true rfl, Nat.le_of_ble_eq_true rfl⟩ ⟨Nat.le_of_ble_eq_true rfl, Nat.le_of_ble_eq_true rfl⟩ d_M_would_46) hS (fun H locs hR hS => ?_)
  refine lv_if_ne (tgt := 55) hx hb d_M_would_49 (by decide) (fun hc => ?_) (fun hc => ?_)
  · have hf := cd_f hc hf
    refine lv_aload_n hx hb d_M_would_55 rfl (lv_at hl 0 rfl) ?_
    refine lv_iload_n hx hb d_M_would_56 rfl (lv_at hl 1 rfl) ?_
    refine lv_iload_n hx hb d_M_would_57 rfl (lv_at hl 2 rfl) ?_
    have ⟨h16, hf⟩ := gd_e hf
    have ⟨x13, w14, h15, hf⟩ := kl_e hf
    refine g_ki0 (g_rV (As := [.int a1, .int a2]) (rest := []) hx hb hml hown hts hK hR hS (c_M_could l D cA oc B N a0 a1 a2 w10 h15) I_M_could m_1396 mp_66 (gRecv hK hR (ci := 12) rfl h16) rfl rfl (Nat.le_of_ble_eq_true rfl) hl.1 ⟨Nat.le_of_ble_eq_true rfl, Nat.le_of_ble_eq_true rfl⟩ ⟨Nat.le_of_ble_eq_true rfl, Nat.le_of_ble_eq_true rfl⟩ d_M_would_58) hS (fun H locs hR hS => ?_)
    refine lv_if_ne (tgt := 67) hx hb d_M_would_61 (by decide) (fun hc => ?_) (fun hc => ?_)
    · have hf := cd_f hc hf
      refine lv_iload_n hx hb d_M_would_67 rfl (lv_at hl 3 rfl) ?_
      refine lv_iconst (v := 2) hx hb d_M_would_68 (by decide) ?_
      refine lv_icmp_le (tgt := 100) hx hb d_M_would_69 (by decide) (fun hc => ?_) (fun hc => ?_)
      · have hf := cd_t hc hf
        refine lv_iload_n hx hb d_M_would_100 rfl (lv_at hl 3 rfl) ?_
        refine lv_if_ne (tgt := 111) hx hb d_M_would_101 (by decide) (fun hc => ?_) (fun hc => ?_)
        · have hf := cd_f hc hf
          refine lv_iload_n hx hb d_M_would_111 rfl (lv_at hl 3 rfl) ?_
          refine lv_iconst (v := 1) hx hb d_M_would_112 (by decide) ?_
          refine lv_icmp_ne (tgt := 123) hx hb d_M_would_113 (by decide) (fun hc => ?_) (fun hc => ?_)
          · have hf := cd_f hc hf
            refine lv_aload_n hx hb d_M_would_123 rfl (lv_at hl 0 rfl) ?_
            have ⟨h17, hf⟩ := gd_e hf
            refine g_getI hx hb hts hown hK hR fl_M_126 (fun _ => rfl) h17 d_M_would_124 ?_
            refine g_nI hf (fun x18 hf => ?_)
            exact g_iret hx hb hr hlocks hR hS hf rfl d_M_would_127
          have hf := cd_t hc hf
          refine lv_aload_n hx hb d_M_would_116 rfl (lv_at hl 0 rfl) ?_
          have ⟨h19, hf⟩ := gd_e hf
          refine g_getI hx hb hts hown hK hR fl_M_129 (fun _ => rfl) h19 d_M_would_117 ?_
          refine g_nI hf (fun x20 hf => ?_)
          refine lv_goto (tgt := 127) hx hb d_M_would_120 (by decide) ?_
          exact g_iret hx hb hr hlocks hR hS hf rfl d_M_would_127
        have hf := cd_t hc hf
        refine lv_aload_n hx hb d_M_would_104 rfl (lv_at hl 0 rfl) ?_
        have ⟨h21, hf⟩ := gd_e hf
        refine g_getI hx hb hts hown hK hR fl_M_114 (fun _ => rfl) h21 d_M_would_105 ?_
        refine g_nI hf (fun x22 hf => ?_)
        refine lv_goto (tgt := 127) hx hb d_M_would_108 (by decide) ?_
        exact g_iret hx hb hr hlocks hR hS hf rfl d_M_would_127
      have hf := cd_f hc hf
      refine lv_iload_n hx hb d_M_would_72 rfl (lv_at hl 3 rfl) ?_
      refine lv_bipush (v := 20) hx hb d_M_would_73 (by decide) ?_
      refine lv_icmp_ge (tgt := 90) hx hb d_M_would_75 (by decide) (fun hc => ?_) (fun hc => ?_)
      · have hf := cd_t hc hf
        refine lv_aload_n hx hb d_M_would_90 rfl (lv_at hl 0 rfl) ?_
        have ⟨h23, hf⟩ := gd_e hf
        have ⟨x24, h25, hf⟩ := rr_e hf
        refine g_getR hx hb hts hown hK hR fl_M_105 (fun _ => rfl) h23 h25 d_M_would_91 ?_
        refine lv_iload_n hx hb d_M_would_94 rfl (lv_at hl 3 rfl) ?_
        refine lv_bipush (v := 20) hx hb d_M_would_95 (by decide) ?_
        refine lv_isub hx hb d_M_would_97 ?_
        refine g_nI hf (fun x26 hf => ?_)
        have ⟨h27, hf⟩ := gd_e hf
        have ⟨h28, hf⟩ := gd_e hf
        refine g_iald hx hb hK hR h27 h28 d_M_would_98 ?_
        refine g_nI hf (fun x29 hf => ?_)
        exact g_iret hx hb hr hlocks hR hS hf rfl d_M_would_99
      have hf := cd_f hc hf
      refine lv_aload_n hx hb d_M_would_78 rfl (lv_at hl 0 rfl) ?_
      have ⟨h30, hf⟩ := gd_e hf
      have ⟨x31, h32, hf⟩ := rr_e hf
      refine g_getR hx hb hts hown hK hR fl_M_102 (fun _ => rfl) h30 h32 d_M_would_79 ?_
      refine lv_iload_n hx hb d_M_would_82 rfl (lv_at hl 3 rfl) ?_
      refine lv_bipush (v := 10) hx hb d_M_would_83 (by decide) ?_
      refine lv_isub hx hb d_M_would_85 ?_
      refine g_nI hf (fun x33 hf => ?_)
      have ⟨h34, hf⟩ := gd_e hf
      have ⟨h35, hf⟩ := gd_e hf
      refine g_iald hx hb hK hR h34 h35 d_M_would_86 ?_
      refine g_nI hf (fun x36 hf => ?_)
      refine lv_goto (tgt := 99) hx hb d_M_would_87 (by decide) ?_
      exact g_iret hx hb hr hlocks hR hS hf rfl d_M_would_99
    have hf := cd_t hc hf
    refine lv_bipush (v := (-5)) hx hb d_M_would_64 (by decide) ?_
    exact g_iret hx hb hr hlocks hR hS hf rfl d_M_would_66
  have hf := cd_t hc hf
  refine lv_bipush (v := (-2)) hx hb d_M_would_52 (by decide) ?_
  exact g_iret hx hb hr hlocks hR hS hf rfl d_M_would_54
set_option maxRecDepth 20000 in
theorem c_M_would_b0 {r : Int32} {wz : gW} (C : gC p s m args meth c "RidCoppersModel" b_M_would 4 (some .int) D cA oc B) (a0 : Nat) (a1 : Int32) (a2 : Int32) (a3 : Int32) (w : gW) {ls : Array Slot} {H : Heap} {locs : List Loc} (hl : lv_has ls 4 [(0, .ref (B + a0)), (1, .int a1), (2, .int a2), (3, .int a3)]) (hf : f_M_would_b0 N a0 a1 a2 a3 w = some (r, wz)) (hR : gRep D cA B w H) (hS : va_S (gA B) s.heap H locs) : W p l e ({ frames := 9, cells := 0, slots := 0, locals := 236 } : Room) s m args below meth c H locs 0 0 (MQ below (gQi D cA B r wz) args s 0 0 (gA B)) (F0 m 0 ls []) := by
  obtain ⟨hx, hb, hml, hown, hts, hr, hlocks, hK, hBs⟩ := id C
  unfold f_M_would_b0 at hf
  refine lv_aload_n hx hb d_M_would_0 rfl (lv_at hl 0 rfl) ?_
  refine lv_iload_n hx hb d_M_would_1 rfl (lv_at hl 1 rfl) ?_
  have ⟨h4, hf⟩ := gd_e hf
  have ⟨x1, w2, h3, hf⟩ := kl_e hf
  refine g_ki0 (g_rV (As := [.int a1]) (rest := []) hx hb hml hown hts hK hR hS (c_M_isPayer l D cA oc B N a0 a1 w h3) I_M_isPayer m_1212 mp_28 (gRecv hK hR (ci := 12) rfl h4) rfl rfl (Nat.le_of_ble_eq_true rfl) hl.1 ⟨Nat.le_of_ble_eq_true rfl, Nat.le_of_ble_eq_true rfl⟩ ⟨Nat.le_of_ble_eq_true rfl, Nat.le_of_ble_eq_true rfl⟩ d_M_would_2) hS (fun H locs hR hS => ?_)
  refine lv_if_eq (tgt := 42) hx hb d_M_would_5 (by decide) (fun hc => ?_) (fun hc => ?_)
  · have hf := cd_t hc hf
    refine lv_iconst (v := (-1)) hx hb d_M_would_42 (by decide) ?_
    exact g_iret hx hb hr hlocks hR hS hf rfl d_M_would_43
  have hf := cd_f hc hf
  refine lv_aload_n hx hb d_M_would_8 rfl (lv_at hl 0 rfl) ?_
  refine lv_iload_n hx hb d_M_would_9 rfl (lv_at hl 3 rfl) ?_
  refine lv_iconst (v := 0) hx hb d_M_would_10 (by decide) ?_
  refine lv_iconst (v := 2) hx hb d_M_would_11 (by decide) ?_
  have ⟨h8, hf⟩ := gd_e hf
  have ⟨x5, w6, h7, hf⟩ := kl_e hf
  refine g_ki0 (g_rV (As := [.int a3, .int 0, .int 2]) (rest := []) hx hb hml hown hts hK hR hS (c_M_in l D cA oc B N a0 a3 0 2 w2 h7) I_M_in m_1204 mp_27 (gRecv hK hR (ci := 12) rfl h8) rfl rfl (Nat.le_of_ble_eq_true rfl) hl.1 ⟨Nat.le_of_ble_eq_true rfl, Nat.le_of_ble_eq_true rfl⟩ ⟨Nat.le_of_ble_eq_true rfl, Nat.le_of_ble_eq_true rfl⟩ d_M_would_12) hS (fun H locs hR hS => ?_)
  refine lv_if_ne (tgt := 44) hx hb d_M_would_15 (by decide) (fun hc => ?_) (fun hc => ?_)
  · have hf := cd_f hc hf
    exact c_M_would_b44 C a0 a1 a2 a3 w6 (lv_sub hl [0, 1, 2, 3] rfl) hf hR hS
  have hf := cd_t hc hf
  refine lv_aload_n hx hb d_M_would_18 rfl (lv_at hl 0 rfl) ?_
  refine lv_iload_n hx hb d_M_would_19 rfl (lv_at hl 3 rfl) ?_
  refine lv_bipush (v := 10) hx hb d_M_would_20 (by decide) ?_
  refine lv_bipush (v := 15) hx hb d_M_would_22 (by decide) ?_
  have ⟨h40, hf⟩ := gd_e hf
  have ⟨x37, w38, h39, hf⟩ := kl_e hf
  refine g_ki0 (g_rV (As := [.int a3, .int 10, .int 15]) (rest := []) hx hb hml hown hts hK hR hS (c_M_in l D cA oc B N a0 a3 10 15 w6 h39) I_M_in m_1204 mp_27 (gRecv hK hR (ci := 12) rfl h40) rfl rfl (Nat.le_of_ble_eq_true rfl) hl.1 ⟨Nat.le_of_ble_eq_true rfl, Nat.le_of_ble_eq_true rfl⟩ ⟨Nat.le_of_ble_eq_true rfl, Nat.le_of_ble_eq_true rfl⟩ d_M_would_24) hS (fun H locs hR hS => ?_)
  refine lv_if_ne (tgt := 44) hx hb d_M_would_27 (by decide) (fun hc => ?_) (fun hc => ?_)
  · have hf := cd_f hc hf
    exact c_M_would_b44 C a0 a1 a2 a3 w38 (lv_sub hl [0, 1, 2, 3] rfl) hf hR hS
  have hf := cd_t hc hf
  refine lv_aload_n hx hb d_M_would_30 rfl (lv_at hl 0 rfl) ?_
  refine lv_iload_n hx hb d_M_would_31 rfl (lv_at hl 3 rfl) ?_
  refine lv_bipush (v := 20) hx hb d_M_would_32 (by decide) ?_
  refine lv_bipush (v := 25) hx hb d_M_would_34 (by decide) ?_
  have ⟨h44, hf⟩ := gd_e hf
  have ⟨x41, w42, h43, hf⟩ := kl_e hf
  refine g_ki0 (g_rV (As := [.int a3, .int 20, .int 25]) (rest := []) hx hb hml hown hts hK hR hS (c_M_in l D cA oc B N a0 a3 20 25 w38 h43) I_M_in m_1204 mp_27 (gRecv hK hR (ci := 12) rfl h44) rfl rfl (Nat.le_of_ble_eq_true rfl) hl.1 ⟨Nat.le_of_ble_eq_true rfl, Nat.le_of_ble_eq_true rfl⟩ ⟨Nat.le_of_ble_eq_true rfl, Nat.le_of_ble_eq_true rfl⟩ d_M_would_36) hS (fun H locs hR hS => ?_)
  refine lv_if_ne (tgt := 44) hx hb d_M_would_39 (by decide) (fun hc => ?_) (fun hc => ?_)
  · have hf := cd_f hc hf
    exact c_M_would_b44 C a0 a1 a2 a3 w42 (lv_sub hl [0, 1, 2, 3] rfl) hf hR hS
  have hf := cd_t hc hf
  refine lv_iconst (v := (-1)) hx hb d_M_would_42 (by decide) ?_
  exact g_iret hx hb hr hlocks hR hS hf rfl d_M_would_43
theorem c_M_would (l : Launch) (D : va_G) (cA : Nat → ClassId) (oc : gO) (B N : Nat) (a0 : Nat) (a1 : Int32) (a2 : Int32) (a3 : Int32) (w : gW) {wz : gW} {r : Int32} (hf : f_M_would N a0 a1 a2 a3 w = some (r, wz)) : Met l y_M_would (Cond.code y_M_would b_M_would 4 (some .int) :: lw_good) ({ frames := 9, cells := 0, slots := 0, locals := 236 } : Room) (gPre D cA oc B [.ref (B + a0), .int a1, .int a2, .int a3] w) (gQi D cA B r wz) 0 0 (gA B) := by
  refine Met.ofW (cc := b_M_would) (maxL := 4) (ret := (some .int)) (by decide +kernel) rfl ?_
  intro p e s m args below meth c s₁ Bd hml hv
  obtain ⟨hargs, C, hR⟩ := gC.enter (l := l) rfl Bd hml hv
  subst hargs
  have hl := lv_entry ([.ref (B + a0), .int a1, .int a2, .int a3]) (n := 4) (Nat.le_of_ble_eq_true rfl)
  rw [lg_entry_eq]
  generalize (lg_sl ([.ref (B + a0), .int a1, .int a2, .int a3]) ++ List.replicate (4 - (lg_sl ([.ref (B + a0), .int a1, .int a2, .int a3])).length) Slot.unset).toArray = ls at hl ⊢
  have hl : lv_has ls 4 [(0, .ref (B + a0)), (1, .int a1), (2, .int a2), (3, .int a3)] := hl
  exact c_M_would_b0 C a0 a1 a2 a3 w (lv_sub hl [0, 1, 2, 3] rfl) hf hR va_S.rf
theorem d_M_least_0 : decode b_M_least 0 = .ok (.aload_n 0, 1) := by decide +kernel
theorem d_M_least_1 : decode b_M_least 1 = .ok (.iload_n 1, 1) := by decide +kernel
theorem d_M_least_2 : decode b_M_least 2 = .ok (.invokevirtual 234, 3) := by decide +kernel
theorem d_M_least_5 : decode b_M_least 5 = .ok (.ifCond .eq 13, 3) := by decide +kernel
theorem d_M_least_8 : decode b_M_least 8 = .ok (.aload_n 0, 1) := by decide +kernel
theorem d_M_least_9 : decode b_M_least 9 = .ok (.iload_n 3, 1) := by decide +kernel
theorem d_M_least_10 : decode b_M_least 10 = .ok (.iconst 0, 1) := by decide +kernel
theorem d_M_least_11 : decode b_M_least 11 = .ok (.iconst 1, 1) := by decide +kernel
theorem d_M_least_12 : decode b_M_least 12 = .ok (.invokevirtual 230, 3) := by decide +kernel
theorem d_M_least_15 : decode b_M_least 15 = .ok (.ifCond .ne 5, 3) := by decide +kernel
theorem d_M_least_18 : decode b_M_least 18 = .ok (.iconst (-1), 1) := by decide +kernel
theorem d_M_least_19 : decode b_M_least 19 = .ok (.ireturn, 1) := by decide +kernel
theorem d_M_least_20 : decode b_M_least 20 = .ok (.aload_n 0, 1) := by decide +kernel
theorem d_M_least_21 : decode b_M_least 21 = .ok (.iload_n 2, 1) := by decide +kernel
theorem d_M_least_22 : decode b_M_least 22 = .ok (.invokevirtual 348, 3) := by decide +kernel
theorem d_M_least_25 : decode b_M_least 25 = .ok (.ifCond .ne 6, 3) := by decide +kernel
theorem d_M_least_28 : decode b_M_least 28 = .ok (.bipush (-2), 2) := by decide +kernel
theorem d_M_least_30 : decode b_M_least 30 = .ok (.ireturn, 1) := by decide +kernel
theorem d_M_least_31 : decode b_M_least 31 = .ok (.aload_n 0, 1) := by decide +kernel
theorem d_M_least_32 : decode b_M_least 32 = .ok (.iload_n 1, 1) := by decide +kernel
theorem d_M_least_33 : decode b_M_least 33 = .ok (.invokevirtual 327, 3) := by decide +kernel
theorem d_M_least_36 : decode b_M_least 36 = .ok (.bipush (-5), 2) := by decide +kernel
theorem d_M_least_38 : decode b_M_least 38 = .ok (.istore 4, 2) := by decide +kernel
theorem d_M_least_40 : decode b_M_least 40 = .ok (.iconst 1, 1) := by decide +kernel
theorem d_M_least_41 : decode b_M_least 41 = .ok (.istore 5, 2) := by decide +kernel
theorem d_M_least_43 : decode b_M_least 43 = .ok (.iload 5, 2) := by decide +kernel
theorem d_M_least_45 : decode b_M_least 45 = .ok (.ifCond .eq 61, 3) := by decide +kernel
theorem d_M_least_48 : decode b_M_least 48 = .ok (.aload_n 0, 1) := by decide +kernel
theorem d_M_least_49 : decode b_M_least 49 = .ok (.iload_n 1, 1) := by decide +kernel
theorem d_M_least_50 : decode b_M_least 50 = .ok (.iload_n 2, 1) := by decide +kernel
theorem d_M_least_51 : decode b_M_least 51 = .ok (.invokevirtual 330, 3) := by decide +kernel
theorem d_M_least_54 : decode b_M_least 54 = .ok (.ifCond .eq 43, 3) := by decide +kernel
theorem d_M_least_57 : decode b_M_least 57 = .ok (.iload_n 3, 1) := by decide +kernel
theorem d_M_least_58 : decode b_M_least 58 = .ok (.ifCond .ne 11, 3) := by decide +kernel
theorem d_M_least_61 : decode b_M_least 61 = .ok (.aload_n 0, 1) := by decide +kernel
theorem d_M_least_62 : decode b_M_least 62 = .ok (.iload_n 1, 1) := by decide +kernel
theorem d_M_least_63 : decode b_M_least 63 = .ok (.invokevirtual 324, 3) := by decide +kernel
theorem d_M_least_66 : decode b_M_least 66 = .ok (.goto 8, 3) := by decide +kernel
theorem d_M_least_69 : decode b_M_least 69 = .ok (.aload_n 0, 1) := by decide +kernel
theorem d_M_least_70 : decode b_M_least 70 = .ok (.iload_n 1, 1) := by decide +kernel
theorem d_M_least_71 : decode b_M_least 71 = .ok (.invokevirtual 366, 3) := by decide +kernel
theorem d_M_least_74 : decode b_M_least 74 = .ok (.istore 6, 2) := by decide +kernel
theorem d_M_least_76 : decode b_M_least 76 = .ok (.iload 4, 2) := by decide +kernel
theorem d_M_least_78 : decode b_M_least 78 = .ok (.ifCond .lt 10, 3) := by decide +kernel
theorem d_M_least_81 : decode b_M_least 81 = .ok (.iload 6, 2) := by decide +kernel
theorem d_M_least_83 : decode b_M_least 83 = .ok (.iload 4, 2) := by decide +kernel
theorem d_M_least_85 : decode b_M_least 85 = .ok (.if_icmp .ge 8, 3) := by decide +kernel
theorem d_M_least_88 : decode b_M_least 88 = .ok (.iload 6, 2) := by decide +kernel
theorem d_M_least_90 : decode b_M_least 90 = .ok (.goto 5, 3) := by decide +kernel
theorem d_M_least_93 : decode b_M_least 93 = .ok (.iload 4, 2) := by decide +kernel
theorem d_M_least_95 : decode b_M_least 95 = .ok (.istore 4, 2) := by decide +kernel
theorem d_M_least_97 : decode b_M_least 97 = .ok (.aload_n 0, 1) := by decide +kernel
theorem d_M_least_98 : decode b_M_least 98 = .ok (.invokevirtual 342, 3) := by decide +kernel
theorem d_M_least_101 : decode b_M_least 101 = .ok (.istore 5, 2) := by decide +kernel
theorem d_M_least_103 : decode b_M_least 103 = .ok (.goto (-60), 3) := by decide +kernel
theorem d_M_least_106 : decode b_M_least 106 = .ok (.iload 4, 2) := by decide +kernel
theorem d_M_least_108 : decode b_M_least 108 = .ok (.ireturn, 1) := by decide +kernel
set_option maxRecDepth 20000 in
theorem c_M_least_b97 {r : Int32} {wz : gW} {rec43 : Nat × Int32 × Int32 × Int32 × Int32 × Int32 × gW → Option (Int32 × gW)} (ih43 : ∀ (a0 : Nat) (a1 : Int32) (a2 : Int32) (a3 : Int32) (a4 : Int32) (a5 : Int32) (w : gW) (ls : Array Slot) (H : Heap) (locs : List Loc), rec43 (a0, a1, a2, a3, a4, a5, w) = some (r, wz) → lv_has ls 7 [(0, .ref (B + a0)), (1, .int a1), (2, .int a2), (3, .int a3), (4, .int a4), (5, .int a5)] → gRep D cA B w H → va_S (gA B) s.heap H locs → W p l e ({ frames := 6, cells := 0, slots := 0, locals := 164 } : Room) s m args below meth c H locs 0 0 (MQ below (gQi D cA B r wz) args s 0 0 (gA B)) (F0 m 43 ls [])) (C : gC p s m args meth c "RidCoppersModel" b_M_least 7 (some .int) D cA oc B) (a0 : Nat) (a1 : Int32) (a2 : Int32) (a3 : Int32) (a4 : Int32) (w : gW) {ls : Array Slot} {H : Heap} {locs : List Loc} (hl : lv_has ls 7 [(0, .ref (B + a0)), (1, .int a1), (2, .int a2), (3, .int a3), (4, .int a4)]) (hf : f_M_least_b97 N rec43 a0 a1 a2 a3 a4 w = some (r, wz)) (hR : gRep D cA B w H) (hS : va_S (gA B) s.heap H locs) : W p l e ({ frames := 6, cells := 0, slots := 0, locals := 164 } : Room) s m args below meth c H locs 0 0 (MQ below (gQi D cA B r wz) args s 0 0 (gA B)) (F0 m 97 ls []) := by
  obtain ⟨hx, hb, hml, hown, hts, hr, hlocks, hK, hBs⟩ := id C
  unfold f_M_least_b97 at hf
  refine lv_aload_n hx hb d_M_least_97 rfl (lv_at hl 0 rfl) ?_
  have ⟨h24, hf⟩ := gd_e hf
  have ⟨x21, w22, h23, hf⟩ := kl_e hf
  refine g_ki0 (g_rV (As := []) (rest := []) hx hb hml hown hts hK hR hS (c_M_nextHand l D cA oc B N a0 w h23) I_M_nextHand m_1384 mp_64 (gRecv hK hR (ci := 12) rfl h24) rfl rfl (Nat.le_of_ble_eq_true rfl) hl.1 ⟨Nat.le_of_ble_eq_true rfl, Nat.le_of_ble_eq_true rfl⟩ ⟨Nat.le_of_ble_eq_true rfl, Nat.le_of_ble_eq_true rfl⟩ d_M_least_98) hS (fun H locs hR hS => ?_)
  refine lv_istore (lv' := [(5, .int x21), (0, .ref (B + a0)), (1, .int a1), (2, .int a2), (3, .int a3), (4, .int a4)]) hx hb d_M_least_101 hl (by decide) rfl (fun ls hl => ?_)
  refine lv_goto (tgt := 43) hx hb d_M_least_103 (by decide) ?_
  exact ih43 a0 a1 a2 a3 a4 x21 w22 _ _ _ hf (lv_sub hl [1, 2, 3, 4, 5, 0] rfl) hR hS
set_option maxRecDepth 20000 in
theorem c_M_least_b95 {r : Int32} {wz : gW} {rec43 : Nat × Int32 × Int32 × Int32 × Int32 × Int32 × gW → Option (Int32 × gW)} (ih43 : ∀ (a0 : Nat) (a1 : Int32) (a2 : Int32) (a3 : Int32) (a4 : Int32) (a5 : Int32) (w : gW) (ls : Array Slot) (H : Heap) (locs : List Loc), rec43 (a0, a1, a2, a3, a4, a5, w) = some (r, wz) → lv_has ls 7 [(0, .ref (B + a0)), (1, .int a1), (2, .int a2), (3, .int a3), (4, .int a4), (5, .int a5)] → gRep D cA B w H → va_S (gA B) s.heap H locs → W p l e ({ frames := 6, cells := 0, slots := 0, locals := 164 } : Room) s m args below meth c H locs 0 0 (MQ below (gQi D cA B r wz) args s 0 0 (gA B)) (F0 m 43 ls [])) (C : gC p s m args meth c "RidCoppersModel" b_M_least 7 (some .int) D cA oc B) (a0 : Nat) (a1 : Int32) (a2 : Int32) (a3 : Int32) (z0 : Int32) (w : gW) {ls : Array Slot} {H : Heap} {locs : List Loc} (hl : lv_has ls 7 [(0, .ref (B + a0)), (1, .int a1), (2, .int a2), (3, .int a3)]) (hf : f_M_least_b95 N rec43 a0 a1 a2 a3 z0 w = some (r, wz)) (hR : gRep D cA B w H) (hS : va_S (gA B) s.heap H locs) : W p l e ({ frames := 6, cells := 0, slots := 0, locals := 164 } : Room) s m args below meth c H locs 0 0 (MQ below (gQi D cA B r wz) args s 0 0 (gA B)) (F0 m 95 ls [.int z0]) := by
  obtain ⟨hx, hb, hml, hown, hts, hr, hlocks, hK, hBs⟩ := id C
  unfold f_M_least_b95 at hf
  refine lv_istore (lv' := [(4, .int z0), (0, .ref (B + a0)), (1, .int a1), (2, .int a2), (3, .int a3)]) hx hb d_M_least_95 hl (by decide) rfl (fun ls hl => ?_)
  exact c_M_least_b97 ih43 C a0 a1 a2 a3 z0 w (lv_sub hl [1, 2, 3, 4, 0] rfl) hf hR hS
set_option maxRecDepth 20000 in
theorem c_M_least_b88 {r : Int32} {wz : gW} {rec43 : Nat × Int32 × Int32 × Int32 × Int32 × Int32 × gW → Option (Int32 × gW)} (ih43 : ∀ (a0 : Nat) (a1 : Int32) (a2 : Int32) (a3 : Int32) (a4 : Int32) (a5 : Int32) (w : gW) (ls : Array Slot) (H : Heap) (locs : List Loc), rec43 (a0, a1, a2, a3, a4, a5, w) = some (r, wz) → lv_has ls 7 [(0, .ref (B + a0)), (1, .int a1), (2, .int a2), (3, .int a3), (4, .int a4), (5, .int a5)] → gRep D cA B w H → va_S (gA B) s.heap H locs → W p l e ({ frames := 6, cells := 0, slots := 0, locals := 164 } : Room) s m args below meth c H locs 0 0 (MQ below (gQi D cA B r wz) args s 0 0 (gA B)) (F0 m 43 ls [])) (C : gC p s m args meth c "RidCoppersModel" b_M_least 7 (some .int) D cA oc B) (a0 : Nat) (a1 : Int32) (a2 : Int32) (a3 : Int32) (a6 : Int32) (w : gW) {ls : Array Slot} {H : Heap} {locs : List Loc} (hl : lv_has ls 7 [(0, .ref (B + a0)), (1, .int a1), (2, .int a2), (3, .int a3), (6, .int a6)]) (hf : f_M_least_b88 N rec43 a0 a1 a2 a3 a6 w = some (r, wz)) (hR : gRep D cA B w H) (hS : va_S (gA B) s.heap H locs) : W p l e ({ frames := 6, cells := 0, slots := 0, locals := 164 } : Room) s m args below meth c H locs 0 0 (MQ below (gQi D cA B r wz) args s 0 0 (gA B)) (F0 m 88 ls []) := by
  obtain ⟨hx, hb, hml, hown, hts, hr, hlocks, hK, hBs⟩ := id C
  unfold f_M_least_b88 at hf
  refine lv_iload hx hb d_M_least_88 (lv_at hl 4 rfl) ?_
  refine lv_goto (tgt := 95) hx hb d_M_least_90 (by decide) ?_
  exact c_M_least_b95 ih43 C a0 a1 a2 a3 a6 w (lv_sub hl [0, 1, 2, 3] rfl) hf hR hS
set_option maxRecDepth 20000 in
theorem c_M_least_b74 {r : Int32} {wz : gW} {rec43 : Nat × Int32 × Int32 × Int32 × Int32 × Int32 × gW → Option (Int32 × gW)} (ih43 : ∀ (a0 : Nat) (a1 : Int32) (a2 : Int32) (a3 : Int32) (a4 : Int32) (a5 : Int32) (w : gW) (ls : Array Slot) (H : Heap) (locs : List Loc), rec43 (a0, a1, a2, a3, a4, a5, w) = some (r, wz) → lv_has ls 7 [(0, .ref (B + a0)), (1, .int a1), (2, .int a2), (3, .int a3), (4, .int a4), (5, .int a5)] → gRep D cA B w H → va_S (gA B) s.heap H locs → W p l e ({ frames := 6, cells := 0, slots := 0, locals := 164 } : Room) s m args below meth c H locs 0 0 (MQ below (gQi D cA B r wz) args s 0 0 (gA B)) (F0 m 43 ls [])) (C : gC p s m args meth c "RidCoppersModel" b_M_least 7 (some .int) D cA oc B) (a0 : Nat) (a1 : Int32) (a2 : Int32) (a3 : Int32) (a4 : Int32) (z0 : Int32) (w : gW) {ls : Array Slot} {H : Heap} {locs : List Loc} (hl : lv_has ls 7 [(0, .ref (B + a0)), (1, .int a1), (2, .int a2), (3, .int a3), (4, .int a4)]) (hf : f_M_least_b74 N rec43 a0 a1 a2 a3 a4 z0 w = some (r, wz)) (hR : gRep D cA B w H) (hS : va_S (gA B) s.heap H locs) : W p l e ({ frames := 6, cells := 0, slots := 0, locals := 164 } : Room) s m args below meth c H locs 0 0 (MQ below (gQi D cA B r wz) args s 0 0 (gA B)) (F0 m 74 ls [.int z0]) := by
  obtain ⟨hx, hb, hml, hown, hts, hr, hlocks, hK, hBs⟩ := id C
  unfold f_M_least_b74 at hf
  refine lv_istore (lv' := [(6, .int z0), (0, .ref (B + a0)), (1, .int a1), (2, .int a2), (3, .int a3), (4, .int a4)]) hx hb d_M_least_74 hl (by decide) rfl (fun ls hl => ?_)
  refine lv_iload hx hb d_M_least_76 (lv_at hl 5 rfl) ?_
  refine lv_if_lt (tgt := 88) hx hb d_M_least_78 (by decide) (fun hc => ?_) (fun hc => ?_)
  · have hf := cd_t hc hf
    exact c_M_least_b88 ih43 C a0 a1 a2 a3 z0 w (lv_sub hl [1, 2, 3, 4, 0] rfl) hf hR hS
  have hf := cd_f hc hf
  refine lv_iload hx hb d_M_least_81 (lv_at hl 0 rfl) ?_
  refine lv_iload hx hb d_M_least_83 (lv_at hl 5 rfl) ?_
  refine lv_icmp_ge (tgt := 93) hx hb d_M_least_85 (by decide) (fun hc => ?_) (fun hc => ?_)
  · have hf := cd_t hc hf
    refine lv_iload hx hb d_M_least_93 (lv_at hl 5 rfl) ?_
    exact c_M_least_b95 ih43 C a0 a1 a2 a3 a4 w (lv_sub hl [1, 2, 3, 4] rfl) hf hR hS
  have hf := cd_f hc hf
  exact c_M_least_b88 ih43 C a0 a1 a2 a3 z0 w (lv_sub hl [1, 2, 3, 4, 0] rfl) hf hR hS
set_option maxRecDepth 20000 in
theorem c_M_least_b43 {r : Int32} {wz : gW} {rec43 : Nat × Int32 × Int32 × Int32 × Int32 × Int32 × gW → Option (Int32 × gW)} (ih43 : ∀ (a0 : Nat) (a1 : Int32) (a2 : Int32) (a3 : Int32) (a4 : Int32) (a5 : Int32) (w : gW) (ls : Array Slot) (H : Heap) (locs : List Loc), rec43 (a0, a1, a2, a3, a4, a5, w) = some (r, wz) → lv_has ls 7 [(0, .ref (B + a0)), (1, .int a1), (2, .int a2), (3, .int a3), (4, .int a4), (5, .int a5)] → gRep D cA B w H → va_S (gA B) s.heap H locs → W p l e ({ frames := 6, cells := 0, slots := 0, locals := 164 } : Room) s m args below meth c H locs 0 0 (MQ below (gQi D cA B r wz) args s 0 0 (gA B)) (F0 m 43 ls [])) (C : gC p s m args meth c "RidCoppersModel" b_M_least 7 (some .int) D cA oc B) (a0 : Nat) (a1 : Int32) (a2 : Int32) (a3 : Int32) (a4 : Int32) (a5 : Int32) (w : gW) {ls : Array Slot} {H : Heap} {locs : List Loc} (hl : lv_has ls 7 [(0, .ref (B + a0)), (1, .int a1), (2, .int a2), (3, .int a3), (4, .int a4), (5, .int a5)]) (hf : f_M_least_b43 N rec43 a0 a1 a2 a3 a4 a5 w = some (r, wz)) (hR : gRep D cA B w H) (hS : va_S (gA B) s.heap H locs) : W p l e ({ frames := 6, cells := 0, slots := 0, locals := 164 } : Room) s m args below meth c H locs 0 0 (MQ below (gQi D cA B r wz) args s 0 0 (gA B)) (F0 m 43 ls []) := by
  obtain ⟨hx, hb, hml, hown, hts, hr, hlocks, hK, hBs⟩ := id C
  unfold f_M_least_b43 at hf
  refine lv_iload hx hb d_M_least_43 (lv_at hl 5 rfl) ?_
  refine lv_if_eq (tgt := 106) hx hb d_M_least_45 (by decide) (fun hc => ?_) (fun hc => ?_)
  · have hf := cd_t hc hf
    refine lv_iload hx hb d_M_least_106 (lv_at hl 4 rfl) ?_
    exact g_iret hx hb hr hlocks hR hS hf rfl d_M_least_108
  have hf := cd_f hc hf
  refine lv_aload_n hx hb d_M_least_48 rfl (lv_at hl 0 rfl) ?_
  refine lv_iload_n hx hb d_M_least_49 rfl (lv_at hl 1 rfl) ?_
  refine lv_iload_n hx hb d_M_least_50 rfl (lv_at hl 2 rfl) ?_
  have ⟨h20, hf⟩ := gd_e hf
  have ⟨x17, w18, h19, hf⟩ := kl_e hf
  refine g_ki0 (g_rV (As := [.int a1, .int a2]) (rest := []) hx hb hml hown hts hK hR hS (c_M_pays l D cA oc B N a0 a1 a2 w h19) I_M_pays m_1360 mp_58 (gRecv hK hR (ci := 12) rfl h20) rfl rfl (Nat.le_of_ble_eq_true rfl) hl.1 ⟨Nat.le_of_ble_eq_true rfl, Nat.le_of_ble_eq_true rfl⟩ ⟨Nat.le_of_ble_eq_true rfl, Nat.le_of_ble_eq_true rfl⟩ d_M_least_51) hS (fun H locs hR hS => ?_)
  refine lv_if_eq (tgt := 97) hx hb d_M_least_54 (by decide) (fun hc => ?_) (fun hc => ?_)
  · have hf := cd_t hc hf
    exact c_M_least_b97 ih43 C a0 a1 a2 a3 a4 w18 (lv_sub hl [0, 1, 2, 3, 4] rfl) hf hR hS
  have hf := cd_f hc hf
  refine lv_iload_n hx hb d_M_least_57 rfl (lv_at hl 3 rfl) ?_
  refine lv_if_ne (tgt := 69) hx hb d_M_least_58 (by decide) (fun hc => ?_) (fun hc => ?_)
  · have hf := cd_f hc hf
    refine lv_aload_n hx hb d_M_least_69 rfl (lv_at hl 0 rfl) ?_
    refine lv_iload_n hx hb d_M_least_70 rfl (lv_at hl 1 rfl) ?_
    have ⟨h28, hf⟩ := gd_e hf
    have ⟨x25, w26, h27, hf⟩ := kl_e hf
    refine g_ki0 (g_rV (As := [.int a1]) (rest := []) hx hb hml hown hts hK hR hS (c_M_coinsBehind l D cA oc B N a0 a1 w18 h27) I_M_coinsBehind m_1412 mp_69 (gRecv hK hR (ci := 12) rfl h28) rfl rfl (Nat.le_of_ble_eq_true rfl) hl.1 ⟨Nat.le_of_ble_eq_true rfl, Nat.le_of_ble_eq_true rfl⟩ ⟨Nat.le_of_ble_eq_true rfl, Nat.le_of_ble_eq_true rfl⟩ d_M_least_71) hS (fun H locs hR hS => ?_)
    exact c_M_least_b74 ih43 C a0 a1 a2 a3 a4 x25 w26 (lv_sub hl [0, 1, 2, 3, 4] rfl) hf hR hS
  have hf := cd_t hc hf
  refine lv_aload_n hx hb d_M_least_61 rfl (lv_at hl 0 rfl) ?_
  refine lv_iload_n hx hb d_M_least_62 rfl (lv_at hl 1 rfl) ?_
  have ⟨h32, hf⟩ := gd_e hf
  have ⟨x29, w30, h31, hf⟩ := kl_e hf
  refine g_ki0 (g_rV (As := [.int a1]) (rest := []) hx hb hml hown hts hK hR hS (c_M_weightBehind l D cA oc B N a0 a1 w18 h31) I_M_weightBehind m_1376 mp_62 (gRecv hK hR (ci := 12) rfl h32) rfl rfl (Nat.le_of_ble_eq_true rfl) hl.1 ⟨Nat.le_of_ble_eq_true rfl, Nat.le_of_ble_eq_true rfl⟩ ⟨Nat.le_of_ble_eq_true rfl, Nat.le_of_ble_eq_true rfl⟩ d_M_least_63) hS (fun H locs hR hS => ?_)
  refine lv_goto (tgt := 74) hx hb d_M_least_66 (by decide) ?_
  exact c_M_least_b74 ih43 C a0 a1 a2 a3 a4 x29 w30 (lv_sub hl [0, 1, 2, 3, 4] rfl) hf hR hS
theorem c_M_least_l43 {r : Int32} {wz : gW} (C : gC p s m args meth c "RidCoppersModel" b_M_least 7 (some .int) D cA oc B) (a0 : Nat) (a1 : Int32) (a2 : Int32) (a3 : Int32) (a4 : Int32) (a5 : Int32) (w : gW) {ls : Array Slot} {H : Heap} {locs : List Loc} (hl : lv_has ls 7 [(0, .ref (B + a0)), (1, .int a1), (2, .int a2), (3, .int a3), (4, .int a4), (5, .int a5)]) (hf : f_M_least_l43 N a0 a1 a2 a3 a4 a5 w = some (r, wz)) (hR : gRep D cA B w H) (hS : va_S (gA B) s.heap H locs) : W p l e ({ frames := 6, cells := 0, slots := 0, locals := 164 } : Room) s m args below meth c H locs 0 0 (MQ below (gQi D cA B r wz) args s 0 0 (gA B)) (F0 m 43 ls []) := by
  unfold f_M_least_l43 at hf
  suffices hh : ∀ n : Nat, ∀ (a0 : Nat) (a1 : Int32) (a2 : Int32) (a3 : Int32) (a4 : Int32) (a5 : Int32) (w : gW) (ls : Array Slot) (H : Heap) (locs : List Loc), itr (fun rec (q : Nat × Int32 × Int32 × Int32 × Int32 × Int32 × gW) => f_M_least_b43 N rec q.1 q.2.1 q.2.2.1 q.2.2.2.1 q.2.2.2.2.1 q.2.2.2.2.2.1 q.2.2.2.2.2.2) n (a0, a1, a2, a3, a4, a5, w) = some (r, wz) → lv_has ls 7 [(0, .ref (B + a0)), (1, .int a1), (2, .int a2), (3, .int a3), (4, .int a4), (5, .int a5)] → gRep D cA B w H → va_S (gA B) s.heap H locs → W p l e ({ frames := 6, cells := 0, slots := 0, locals := 164 } : Room) s m args below meth c H locs 0 0 (MQ below (gQi D cA B r wz) args s 0 0 (gA B)) (F0 m 43 ls []) from hh N a0 a1 a2 a3 a4 a5 w ls H locs hf hl hR hS
  intro n
  induction n with
  | zero => intro a0 a1 a2 a3 a4 a5 w ls H locs hf; cases hf
  | succ n ihn =>
    intro a0 a1 a2 a3 a4 a5 w ls H locs hf hl hR hS
    exact c_M_least_b43 (N := N) ihn C a0 a1 a2 a3 a4 a5 w hl ((itr_s _ _ _).symm.trans hf) hR hS
set_option maxRecDepth 20000 in
theorem c_M_least_b0 {r : Int32} {wz : gW} (C : gC p s m args meth c "RidCoppersModel" b_M_least 7 (some .int) D cA oc B) (a0 : Nat) (a1 : Int32) (a2 : Int32) (a3 : Int32) (w : gW) {ls : Array Slot} {H : Heap} {locs : List Loc} (hl : lv_has ls 7 [(0, .ref (B + a0)), (1, .int a1), (2, .int a2), (3, .int a3)]) (hf : f_M_least_b0 N a0 a1 a2 a3 w = some (r, wz)) (hR : gRep D cA B w H) (hS : va_S (gA B) s.heap H locs) : W p l e ({ frames := 6, cells := 0, slots := 0, locals := 164 } : Room) s m args below meth c H locs 0 0 (MQ below (gQi D cA B r wz) args s 0 0 (gA B)) (F0 m 0 ls []) := by
  obtain ⟨hx, hb, hml, hown, hts, hr, hlocks, hK, hBs⟩ := id C
  unfold f_M_least_b0 at hf
  refine lv_aload_n hx hb d_M_least_0 rfl (lv_at hl 0 rfl) ?_
  refine lv_iload_n hx hb d_M_least_1 rfl (lv_at hl 1 rfl) ?_
  have ⟨h4, hf⟩ := gd_e hf
  have ⟨x1, w2, h3, hf⟩ := kl_e hf
  refine g_ki0 (g_rV (As := [.int a1]) (rest := []) hx hb hml hown hts hK hR hS (c_M_isPayer l D cA oc B N a0 a1 w h3) I_M_isPayer m_1212 mp_28 (gRecv hK hR (ci := 12) rfl h4) rfl rfl (Nat.le_of_ble_eq_true rfl) hl.1 ⟨Nat.le_of_ble_eq_true rfl, Nat.le_of_ble_eq_true rfl⟩ ⟨Nat.le_of_ble_eq_true rfl, Nat.le_of_ble_eq_true rfl⟩ d_M_least_2) hS (fun H locs hR hS => ?_)
  refine lv_if_eq (tgt := 18) hx hb d_M_least_5 (by decide) (fun hc => ?_) (fun hc => ?_)
  · have hf := cd_t hc hf
    refine lv_iconst (v := (-1)) hx hb d_M_least_18 (by decide) ?_
    exact g_iret hx hb hr hlocks hR hS hf rfl d_M_least_19
  have hf := cd_f hc hf
  refine lv_aload_n hx hb d_M_least_8 rfl (lv_at hl 0 rfl) ?_
  refine lv_iload_n hx hb d_M_least_9 rfl (lv_at hl 3 rfl) ?_
  refine lv_iconst (v := 0) hx hb d_M_least_10 (by decide) ?_
  refine lv_iconst (v := 1) hx hb d_M_least_11 (by decide) ?_
  have ⟨h8, hf⟩ := gd_e hf
  have ⟨x5, w6, h7, hf⟩ := kl_e hf
  refine g_ki0 (g_rV (As := [.int a3, .int 0, .int 1]) (rest := []) hx hb hml hown hts hK hR hS (c_M_in l D cA oc B N a0 a3 0 1 w2 h7) I_M_in m_1204 mp_27 (gRecv hK hR (ci := 12) rfl h8) rfl rfl (Nat.le_of_ble_eq_true rfl) hl.1 ⟨Nat.le_of_ble_eq_true rfl, Nat.le_of_ble_eq_true rfl⟩ ⟨Nat.le_of_ble_eq_true rfl, Nat.le_of_ble_eq_true rfl⟩ d_M_least_12) hS (fun H locs hR hS => ?_)
  refine lv_if_ne (tgt := 20) hx hb d_M_least_15 (by decide) (fun hc => ?_) (fun hc => ?_)
  · have hf := cd_f hc hf
    refine lv_aload_n hx hb d_M_least_20 rfl (lv_at hl 0 rfl) ?_
    refine lv_iload_n hx hb d_M_least_21 rfl (lv_at hl 2 rfl) ?_
    have ⟨h12, hf⟩ := gd_e hf
    have ⟨x9, w10, h11, hf⟩ := kl_e hf
    refine g_ki0 (g_rV (As := [.int a2]) (rest := []) hx hb hml hown hts hK hR hS (c_M_isPrice l D cA oc B N a0 a2 w6 h11) I_M_isPrice m_1344 mp_54 (gRecv hK hR (ci := 12) rfl h12) rfl rfl (Nat.le_of_ble_eq_true rfl) hl.1 ⟨Nat.le_of_ble_eq_true rfl, Nat.le_of_ble_eq_true rfl⟩ ⟨Nat.le_of_ble_eq_true rfl, Nat.le_of_ble_eq_true rfl⟩ d_M_least_22) hS (fun H locs hR hS => ?_)
    refine lv_if_ne (tgt := 31) hx hb d_M_least_25 (by decide) (fun hc => ?_) (fun hc => ?_)
    · have hf := cd_f hc hf
      refine lv_aload_n hx hb d_M_least_31 rfl (lv_at hl 0 rfl) ?_
      refine lv_iload_n hx hb d_M_least_32 rfl (lv_at hl 1 rfl) ?_
      have ⟨h16, hf⟩ := gd_e hf
      have ⟨x13, w14, h15, hf⟩ := kl_e hf
      refine g_kv0 (g_rV (As := [.int a1]) (rest := []) hx hb hml hown hts hK hR hS (c_M_layLimits l D cA oc B N a0 a1 w10 h15) I_M_layLimits m_1356 mp_57 (gRecv hK hR (ci := 12) rfl h16) rfl rfl (Nat.le_of_ble_eq_true rfl) hl.1 ⟨Nat.le_of_ble_eq_true rfl, Nat.le_of_ble_eq_true rfl⟩ ⟨Nat.le_of_ble_eq_true rfl, Nat.le_of_ble_eq_true rfl⟩ d_M_least_33) hS (fun H locs hR hS => ?_)
      refine lv_bipush (v := (-5)) hx hb d_M_least_36 (by decide) ?_
      refine lv_istore (lv' := [(4, .int (-5)), (0, .ref (B + a0)), (1, .int a1), (2, .int a2), (3, .int a3)]) hx hb d_M_least_38 hl (by decide) rfl (fun ls hl => ?_)
      refine lv_iconst (v := 1) hx hb d_M_least_40 (by decide) ?_
      refine lv_istore (lv' := [(5, .int 1), (4, .int (-5)), (0, .ref (B + a0)), (1, .int a1), (2, .int a2), (3, .int a3)]) hx hb d_M_least_41 hl (by decide) rfl (fun ls hl => ?_)
      exact c_M_least_l43 C a0 a1 a2 a3 (-5) 1 w14 (lv_sub hl [2, 3, 4, 5, 1, 0] rfl) hf hR hS
    have hf := cd_t hc hf
    refine lv_bipush (v := (-2)) hx hb d_M_least_28 (by decide) ?_
    exact g_iret hx hb hr hlocks hR hS hf rfl d_M_least_30
  have hf := cd_t hc hf
  refine lv_iconst (v := (-1)) hx hb d_M_least_18 (by decide) ?_
  exact g_iret hx hb hr hlocks hR hS hf rfl d_M_least_19
theorem c_M_least (l : Launch) (D : va_G) (cA : Nat → ClassId) (oc : gO) (B N : Nat) (a0 : Nat) (a1 : Int32) (a2 : Int32) (a3 : Int32) (w : gW) {wz : gW} {r : Int32} (hf : f_M_least N a0 a1 a2 a3 w = some (r, wz)) : Met l y_M_least (Cond.code y_M_least b_M_least 7 (some .int) :: lw_good) ({ frames := 6, cells := 0, slots := 0, locals := 164 } : Room) (gPre D cA oc B [.ref (B + a0), .int a1, .int a2, .int a3] w) (gQi D cA B r wz) 0 0 (gA B) := by
  refine Met.ofW (cc := b_M_least) (maxL := 7) (ret := (some .int)) (by decide +kernel) rfl ?_
  intro p e s m args below meth c s₁ Bd hml hv
  obtain ⟨hargs, C, hR⟩ := gC.enter (l := l) rfl Bd hml hv
  subst hargs
  have hl := lv_entry ([.ref (B + a0), .int a1, .int a2, .int a3]) (n := 7) (Nat.le_of_ble_eq_true rfl)
  rw [lg_entry_eq]
  generalize (lg_sl ([.ref (B + a0), .int a1, .int a2, .int a3]) ++ List.replicate (7 - (lg_sl ([.ref (B + a0), .int a1, .int a2, .int a3])).length) Slot.unset).toArray = ls at hl ⊢
  have hl : lv_has ls 7 [(0, .ref (B + a0)), (1, .int a1), (2, .int a2), (3, .int a3)] := hl
  exact c_M_least_b0 C a0 a1 a2 a3 w (lv_sub hl [0, 1, 2, 3] rfl) hf hR va_S.rf
theorem d_M_exactly_0 : decode b_M_exactly 0 = .ok (.aload_n 0, 1) := by decide +kernel
theorem d_M_exactly_1 : decode b_M_exactly 1 = .ok (.iload_n 1, 1) := by decide +kernel
theorem d_M_exactly_2 : decode b_M_exactly 2 = .ok (.invokevirtual 234, 3) := by decide +kernel
theorem d_M_exactly_5 : decode b_M_exactly 5 = .ok (.ifCond .ne 5, 3) := by decide +kernel
theorem d_M_exactly_8 : decode b_M_exactly 8 = .ok (.iconst (-1), 1) := by decide +kernel
theorem d_M_exactly_9 : decode b_M_exactly 9 = .ok (.ireturn, 1) := by decide +kernel
theorem d_M_exactly_10 : decode b_M_exactly 10 = .ok (.aload_n 0, 1) := by decide +kernel
theorem d_M_exactly_11 : decode b_M_exactly 11 = .ok (.iload_n 1, 1) := by decide +kernel
theorem d_M_exactly_12 : decode b_M_exactly 12 = .ok (.invokevirtual 327, 3) := by decide +kernel
theorem d_M_exactly_15 : decode b_M_exactly 15 = .ok (.iconst 0, 1) := by decide +kernel
theorem d_M_exactly_16 : decode b_M_exactly 16 = .ok (.istore_n 2, 1) := by decide +kernel
theorem d_M_exactly_17 : decode b_M_exactly 17 = .ok (.iload_n 2, 1) := by decide +kernel
theorem d_M_exactly_18 : decode b_M_exactly 18 = .ok (.bipush 61, 2) := by decide +kernel
theorem d_M_exactly_20 : decode b_M_exactly 20 = .ok (.if_icmp .ge 16, 3) := by decide +kernel
theorem d_M_exactly_23 : decode b_M_exactly 23 = .ok (.aload_n 0, 1) := by decide +kernel
theorem d_M_exactly_24 : decode b_M_exactly 24 = .ok (.getfield 132, 3) := by decide +kernel
theorem d_M_exactly_27 : decode b_M_exactly 27 = .ok (.iload_n 2, 1) := by decide +kernel
theorem d_M_exactly_28 : decode b_M_exactly 28 = .ok (.iconst 0, 1) := by decide +kernel
theorem d_M_exactly_29 : decode b_M_exactly 29 = .ok (.bastore, 1) := by decide +kernel
theorem d_M_exactly_30 : decode b_M_exactly 30 = .ok (.iinc 2 1, 3) := by decide +kernel
theorem d_M_exactly_33 : decode b_M_exactly 33 = .ok (.goto (-16), 3) := by decide +kernel
theorem d_M_exactly_36 : decode b_M_exactly 36 = .ok (.iconst 1, 1) := by decide +kernel
theorem d_M_exactly_37 : decode b_M_exactly 37 = .ok (.istore_n 2, 1) := by decide +kernel
theorem d_M_exactly_38 : decode b_M_exactly 38 = .ok (.iload_n 2, 1) := by decide +kernel
theorem d_M_exactly_39 : decode b_M_exactly 39 = .ok (.ifCond .eq 50, 3) := by decide +kernel
theorem d_M_exactly_42 : decode b_M_exactly 42 = .ok (.aload_n 0, 1) := by decide +kernel
theorem d_M_exactly_43 : decode b_M_exactly 43 = .ok (.invokevirtual 321, 3) := by decide +kernel
theorem d_M_exactly_46 : decode b_M_exactly 46 = .ok (.aload_n 0, 1) := by decide +kernel
theorem d_M_exactly_47 : decode b_M_exactly 47 = .ok (.aload_n 0, 1) := by decide +kernel
theorem d_M_exactly_48 : decode b_M_exactly 48 = .ok (.getfield 108, 3) := by decide +kernel
theorem d_M_exactly_51 : decode b_M_exactly 51 = .ok (.iconst 1, 1) := by decide +kernel
theorem d_M_exactly_52 : decode b_M_exactly 52 = .ok (.bipush 60, 2) := by decide +kernel
theorem d_M_exactly_54 : decode b_M_exactly 54 = .ok (.invokevirtual 230, 3) := by decide +kernel
theorem d_M_exactly_57 : decode b_M_exactly 57 = .ok (.ifCond .eq 24, 3) := by decide +kernel
theorem d_M_exactly_60 : decode b_M_exactly 60 = .ok (.aload_n 0, 1) := by decide +kernel
theorem d_M_exactly_61 : decode b_M_exactly 61 = .ok (.getfield 132, 3) := by decide +kernel
theorem d_M_exactly_64 : decode b_M_exactly 64 = .ok (.aload_n 0, 1) := by decide +kernel
theorem d_M_exactly_65 : decode b_M_exactly 65 = .ok (.getfield 108, 3) := by decide +kernel
theorem d_M_exactly_68 : decode b_M_exactly 68 = .ok (.dup2, 1) := by decide +kernel
theorem d_M_exactly_69 : decode b_M_exactly 69 = .ok (.baload, 1) := by decide +kernel
theorem d_M_exactly_70 : decode b_M_exactly 70 = .ok (.aload_n 0, 1) := by decide +kernel
theorem d_M_exactly_71 : decode b_M_exactly 71 = .ok (.iload_n 1, 1) := by decide +kernel
theorem d_M_exactly_72 : decode b_M_exactly 72 = .ok (.aload_n 0, 1) := by decide +kernel
theorem d_M_exactly_73 : decode b_M_exactly 73 = .ok (.getfield 108, 3) := by decide +kernel
theorem d_M_exactly_76 : decode b_M_exactly 76 = .ok (.invokevirtual 330, 3) := by decide +kernel
theorem d_M_exactly_79 : decode b_M_exactly 79 = .ok (.ior, 1) := by decide +kernel
theorem d_M_exactly_80 : decode b_M_exactly 80 = .ok (.bastore, 1) := by decide +kernel
theorem d_M_exactly_81 : decode b_M_exactly 81 = .ok (.aload_n 0, 1) := by decide +kernel
theorem d_M_exactly_82 : decode b_M_exactly 82 = .ok (.invokevirtual 342, 3) := by decide +kernel
theorem d_M_exactly_85 : decode b_M_exactly 85 = .ok (.istore_n 2, 1) := by decide +kernel
theorem d_M_exactly_86 : decode b_M_exactly 86 = .ok (.goto (-48), 3) := by decide +kernel
theorem d_M_exactly_89 : decode b_M_exactly 89 = .ok (.iconst 0, 1) := by decide +kernel
theorem d_M_exactly_90 : decode b_M_exactly 90 = .ok (.istore_n 3, 1) := by decide +kernel
theorem d_M_exactly_91 : decode b_M_exactly 91 = .ok (.iconst 1, 1) := by decide +kernel
theorem d_M_exactly_92 : decode b_M_exactly 92 = .ok (.istore 4, 2) := by decide +kernel
theorem d_M_exactly_94 : decode b_M_exactly 94 = .ok (.iload 4, 2) := by decide +kernel
theorem d_M_exactly_96 : decode b_M_exactly 96 = .ok (.bipush 61, 2) := by decide +kernel
theorem d_M_exactly_98 : decode b_M_exactly 98 = .ok (.if_icmp .ge 27, 3) := by decide +kernel
theorem d_M_exactly_101 : decode b_M_exactly 101 = .ok (.iload_n 3, 1) := by decide +kernel
theorem d_M_exactly_102 : decode b_M_exactly 102 = .ok (.aload_n 0, 1) := by decide +kernel
theorem d_M_exactly_103 : decode b_M_exactly 103 = .ok (.getfield 132, 3) := by decide +kernel
theorem d_M_exactly_106 : decode b_M_exactly 106 = .ok (.iload 4, 2) := by decide +kernel
theorem d_M_exactly_108 : decode b_M_exactly 108 = .ok (.baload, 1) := by decide +kernel
theorem d_M_exactly_109 : decode b_M_exactly 109 = .ok (.ifCond .eq 7, 3) := by decide +kernel
theorem d_M_exactly_112 : decode b_M_exactly 112 = .ok (.iconst 1, 1) := by decide +kernel
theorem d_M_exactly_113 : decode b_M_exactly 113 = .ok (.goto 4, 3) := by decide +kernel
theorem d_M_exactly_116 : decode b_M_exactly 116 = .ok (.iconst 0, 1) := by decide +kernel
theorem d_M_exactly_117 : decode b_M_exactly 117 = .ok (.iadd, 1) := by decide +kernel
theorem d_M_exactly_118 : decode b_M_exactly 118 = .ok (.istore_n 3, 1) := by decide +kernel
theorem d_M_exactly_119 : decode b_M_exactly 119 = .ok (.iinc 4 1, 3) := by decide +kernel
theorem d_M_exactly_122 : decode b_M_exactly 122 = .ok (.goto (-28), 3) := by decide +kernel
theorem d_M_exactly_125 : decode b_M_exactly 125 = .ok (.iload_n 3, 1) := by decide +kernel
theorem d_M_exactly_126 : decode b_M_exactly 126 = .ok (.ireturn, 1) := by decide +kernel
set_option maxRecDepth 20000 in
theorem c_M_exactly_b94 {r : Int32} {wz : gW} {rec94 : Nat × Int32 × Int32 × gW → Option (Int32 × gW)} (ih94 : ∀ (a0 : Nat) (a3 : Int32) (a4 : Int32) (w : gW) (ls : Array Slot) (H : Heap) (locs : List Loc), rec94 (a0, a3, a4, w) = some (r, wz) → lv_has ls 5 [(0, .ref (B + a0)), (3, .int a3), (4, .int a4)] → gRep D cA B w H → va_S (gA B) s.heap H locs → W p l e ({ frames := 6, cells := 0, slots := 0, locals := 164 } : Room) s m args below meth c H locs 0 0 (MQ below (gQi D cA B r wz) args s 0 0 (gA B)) (F0 m 94 ls [])) (C : gC p s m args meth c "RidCoppersModel" b_M_exactly 5 (some .int) D cA oc B) (a0 : Nat) (a3 : Int32) (a4 : Int32) (w : gW) {ls : Array Slot} {H : Heap} {locs : List Loc} (hl : lv_has ls 5 [(0, .ref (B + a0)), (3, .int a3), (4, .int a4)]) (hf : f_M_exactly_b94 N rec94 a0 a3 a4 w = some (r, wz)) (hR : gRep D cA B w H) (hS : va_S (gA B) s.heap H locs) : W p l e ({ frames := 6, cells := 0, slots := 0, locals := 164 } : Room) s m args below meth c H locs 0 0 (MQ below (gQi D cA B r wz) args s 0 0 (gA B)) (F0 m 94 ls []) := by
  obtain ⟨hx, hb, hml, hown, hts, hr, hlocks, hK, hBs⟩ := id C
  unfold f_M_exactly_b94 at hf
  refine lv_iload hx hb d_M_exactly_94 (lv_at hl 2 rfl) ?_
  refine lv_bipush (v := 61) hx hb d_M_exactly_96 (by decide) ?_
  refine lv_icmp_ge (tgt := 125) hx hb d_M_exactly_98 (by decide) (fun hc => ?_) (fun hc => ?_)
  · have hf := cd_t hc hf
    refine lv_iload_n hx hb d_M_exactly_125 rfl (lv_at hl 1 rfl) ?_
    exact g_iret hx hb hr hlocks hR hS hf rfl d_M_exactly_126
  have hf := cd_f hc hf
  refine lv_iload_n hx hb d_M_exactly_101 rfl (lv_at hl 1 rfl) ?_
  refine lv_aload_n hx hb d_M_exactly_102 rfl (lv_at hl 0 rfl) ?_
  have ⟨h9, hf⟩ := gd_e hf
  have ⟨x10, h11, hf⟩ := rr_e hf
  refine g_getR hx hb hts hown hK hR fl_M_132 (fun _ => rfl) h9 h11 d_M_exactly_103 ?_
  refine lv_iload hx hb d_M_exactly_106 (lv_at hl 2 rfl) ?_
  have ⟨h12, hf⟩ := gd_e hf
  have ⟨h13, hf⟩ := gd_e hf
  refine g_zald hx hb hK hR h12 h13 d_M_exactly_108 ?_
  refine g_nI hf (fun x14 hf => ?_)
  refine lv_if_eq (tgt := 116) hx hb d_M_exactly_109 (by decide) (fun hc => ?_) (fun hc => ?_)
  · have hf := cd_t hc hf
    refine lv_iconst (v := 0) hx hb d_M_exactly_116 (by decide) ?_
    refine lv_iadd hx hb d_M_exactly_117 ?_
    refine g_nI hf (fun x15 hf => ?_)
    refine lv_istore_n (lv' := [(3, .int x15), (0, .ref (B + a0)), (4, .int a4)]) hx hb d_M_exactly_118 rfl hl (by decide) rfl (fun ls hl => ?_)
    refine g_iinc (lv' := fun x16 => [(4, .int x16), (3, .int x15), (0, .ref (B + a0))]) hf hx hb d_M_exactly_119 hl (k := 2) rfl (by decide) (by decide) (fun _ => rfl) (fun x16 ls hf hl => ?_)
    refine lv_goto (tgt := 94) hx hb d_M_exactly_122 (by decide) ?_
    exact ih94 a0 x15 x16 w _ _ _ hf (lv_sub hl [2, 1, 0] rfl) hR hS
  have hf := cd_f hc hf
  refine lv_iconst (v := 1) hx hb d_M_exactly_112 (by decide) ?_
  refine lv_goto (tgt := 117) hx hb d_M_exactly_113 (by decide) ?_
  refine lv_iadd hx hb d_M_exactly_117 ?_
  refine g_nI hf (fun x17 hf => ?_)
  refine lv_istore_n (lv' := [(3, .int x17), (0, .ref (B + a0)), (4, .int a4)]) hx hb d_M_exactly_118 rfl hl (by decide) rfl (fun ls hl => ?_)
  refine g_iinc (lv' := fun x18 => [(4, .int x18), (3, .int x17), (0, .ref (B + a0))]) hf hx hb d_M_exactly_119 hl (k := 2) rfl (by decide) (by decide) (fun _ => rfl) (fun x18 ls hf hl => ?_)
  refine lv_goto (tgt := 94) hx hb d_M_exactly_122 (by decide) ?_
  exact ih94 a0 x17 x18 w _ _ _ hf (lv_sub hl [2, 1, 0] rfl) hR hS
theorem c_M_exactly_l94 {r : Int32} {wz : gW} (C : gC p s m args meth c "RidCoppersModel" b_M_exactly 5 (some .int) D cA oc B) (a0 : Nat) (a3 : Int32) (a4 : Int32) (w : gW) {ls : Array Slot} {H : Heap} {locs : List Loc} (hl : lv_has ls 5 [(0, .ref (B + a0)), (3, .int a3), (4, .int a4)]) (hf : f_M_exactly_l94 N a0 a3 a4 w = some (r, wz)) (hR : gRep D cA B w H) (hS : va_S (gA B) s.heap H locs) : W p l e ({ frames := 6, cells := 0, slots := 0, locals := 164 } : Room) s m args below meth c H locs 0 0 (MQ below (gQi D cA B r wz) args s 0 0 (gA B)) (F0 m 94 ls []) := by
  unfold f_M_exactly_l94 at hf
  suffices hh : ∀ n : Nat, ∀ (a0 : Nat) (a3 : Int32) (a4 : Int32) (w : gW) (ls : Array Slot) (H : Heap) (locs : List Loc), itr (fun rec (q : Nat × Int32 × Int32 × gW) => f_M_exactly_b94 N rec q.1 q.2.1 q.2.2.1 q.2.2.2) n (a0, a3, a4, w) = some (r, wz) → lv_has ls 5 [(0, .ref (B + a0)), (3, .int a3), (4, .int a4)] → gRep D cA B w H → va_S (gA B) s.heap H locs → W p l e ({ frames := 6, cells := 0, slots := 0, locals := 164 } : Room) s m args below meth c H locs 0 0 (MQ below (gQi D cA B r wz) args s 0 0 (gA B)) (F0 m 94 ls []) from hh N a0 a3 a4 w ls H locs hf hl hR hS
  intro n
  induction n with
  | zero => intro a0 a3 a4 w ls H locs hf; cases hf
  | succ n ihn =>
    intro a0 a3 a4 w ls H locs hf hl hR hS
    exact c_M_exactly_b94 (N := N) ihn C a0 a3 a4 w hl ((itr_s _ _ _).symm.trans hf) hR hS
set_option maxRecDepth 20000 in
theorem c_M_exactly_b81 {r : Int32} {wz : gW} {rec38 : Nat × Int32 × Int32 × gW → Option (Int32 × gW)} (ih38 : ∀ (a0 : Nat) (a1 : Int32) (a2 : Int32) (w : gW) (ls : Array Slot) (H : Heap) (locs : List Loc), rec38 (a0, a1, a2, w) = some (r, wz) → lv_has ls 5 [(0, .ref (B + a0)), (1, .int a1), (2, .int a2)] → gRep D cA B w H → va_S (gA B) s.heap H locs → W p l e ({ frames := 6, cells := 0, slots := 0, locals := 164 } : Room) s m args below meth c H locs 0 0 (MQ below (gQi D cA B r wz) args s 0 0 (gA B)) (F0 m 38 ls [])) (C : gC p s m args meth c "RidCoppersModel" b_M_exactly 5 (some .int) D cA oc B) (a0 : Nat) (a1 : Int32) (w : gW) {ls : Array Slot} {H : Heap} {locs : List Loc} (hl : lv_has ls 5 [(0, .ref (B + a0)), (1, .int a1)]) (hf : f_M_exactly_b81 N rec38 a0 a1 w = some (r, wz)) (hR : gRep D cA B w H) (hS : va_S (gA B) s.heap H locs) : W p l e ({ frames := 6, cells := 0, slots := 0, locals := 164 } : Room) s m args below meth c H locs 0 0 (MQ below (gQi D cA B r wz) args s 0 0 (gA B)) (F0 m 81 ls []) := by
  obtain ⟨hx, hb, hml, hown, hts, hr, hlocks, hK, hBs⟩ := id C
  unfold f_M_exactly_b81 at hf
  refine lv_aload_n hx hb d_M_exactly_81 rfl (lv_at hl 0 rfl) ?_
  have ⟨h31, hf⟩ := gd_e hf
  have ⟨x28, w29, h30, hf⟩ := kl_e hf
  refine g_ki0 (g_rV (As := []) (rest := []) hx hb hml hown hts hK hR hS (c_M_nextHand l D cA oc B N a0 w h30) I_M_nextHand m_1384 mp_64 (gRecv hK hR (ci := 12) rfl h31) rfl rfl (Nat.le_of_ble_eq_true rfl) hl.1 ⟨Nat.le_of_ble_eq_true rfl, Nat.le_of_ble_eq_true rfl⟩ ⟨Nat.le_of_ble_eq_true rfl, Nat.le_of_ble_eq_true rfl⟩ d_M_exactly_82) hS (fun H locs hR hS => ?_)
  refine lv_istore_n (lv' := [(2, .int x28), (0, .ref (B + a0)), (1, .int a1)]) hx hb d_M_exactly_85 rfl hl (by decide) rfl (fun ls hl => ?_)
  refine lv_goto (tgt := 38) hx hb d_M_exactly_86 (by decide) ?_
  exact ih38 a0 a1 x28 w29 _ _ _ hf (lv_sub hl [1, 2, 0] rfl) hR hS
set_option maxRecDepth 20000 in
theorem c_M_exactly_b38 {r : Int32} {wz : gW} {rec38 : Nat × Int32 × Int32 × gW → Option (Int32 × gW)} (ih38 : ∀ (a0 : Nat) (a1 : Int32) (a2 : Int32) (w : gW) (ls : Array Slot) (H : Heap) (locs : List Loc), rec38 (a0, a1, a2, w) = some (r, wz) → lv_has ls 5 [(0, .ref (B + a0)), (1, .int a1), (2, .int a2)] → gRep D cA B w H → va_S (gA B) s.heap H locs → W p l e ({ frames := 6, cells := 0, slots := 0, locals := 164 } : Room) s m args below meth c H locs 0 0 (MQ below (gQi D cA B r wz) args s 0 0 (gA B)) (F0 m 38 ls [])) (C : gC p s m args meth c "RidCoppersModel" b_M_exactly 5 (some .int) D cA oc B) (a0 : Nat) (a1 : Int32) (a2 : Int32) (w : gW) {ls : Array Slot} {H : Heap} {locs : List Loc} (hl : lv_has ls 5 [(0, .ref (B + a0)), (1, .int a1), (2, .int a2)]) (hf : f_M_exactly_b38 N rec38 a0 a1 a2 w = some (r, wz)) (hR : gRep D cA B w H) (hS : va_S (gA B) s.heap H locs) : W p l e ({ frames := 6, cells := 0, slots := 0, locals := 164 } : Room) s m args below meth c H locs 0 0 (MQ below (gQi D cA B r wz) args s 0 0 (gA B)) (F0 m 38 ls []) := by
  obtain ⟨hx, hb, hml, hown, hts, hr, hlocks, hK, hBs⟩ := id C
  unfold f_M_exactly_b38 at hf
  refine lv_iload_n hx hb d_M_exactly_38 rfl (lv_at hl 2 rfl) ?_
  refine lv_if_eq (tgt := 89) hx hb d_M_exactly_39 (by decide) (fun hc => ?_) (fun hc => ?_)
  · have hf := cd_t hc hf
    refine lv_iconst (v := 0) hx hb d_M_exactly_89 (by decide) ?_
    refine lv_istore_n (lv' := [(3, .int 0), (0, .ref (B + a0)), (1, .int a1), (2, .int a2)]) hx hb d_M_exactly_90 rfl hl (by decide) rfl (fun ls hl => ?_)
    refine lv_iconst (v := 1) hx hb d_M_exactly_91 (by decide) ?_
    refine lv_istore (lv' := [(4, .int 1), (3, .int 0), (0, .ref (B + a0)), (1, .int a1), (2, .int a2)]) hx hb d_M_exactly_92 hl (by decide) rfl (fun ls hl => ?_)
    exact c_M_exactly_l94 C a0 0 1 w (lv_sub hl [2, 1, 0] rfl) hf hR hS
  have hf := cd_f hc hf
  refine lv_aload_n hx hb d_M_exactly_42 rfl (lv_at hl 0 rfl) ?_
  have ⟨h22, hf⟩ := gd_e hf
  have ⟨x19, w20, h21, hf⟩ := kl_e hf
  refine g_kv0 (g_rV (As := []) (rest := []) hx hb hml hown hts hK hR hS (c_M_laySum l D cA oc B N a0 w h21) I_M_laySum m_1364 mp_59 (gRecv hK hR (ci := 12) rfl h22) rfl rfl (Nat.le_of_ble_eq_true rfl) hl.1 ⟨Nat.le_of_ble_eq_true rfl, Nat.le_of_ble_eq_true rfl⟩ ⟨Nat.le_of_ble_eq_true rfl, Nat.le_of_ble_eq_true rfl⟩ d_M_exactly_43) hS (fun H locs hR hS => ?_)
  refine lv_aload_n hx hb d_M_exactly_46 rfl (lv_at hl 0 rfl) ?_
  refine lv_aload_n hx hb d_M_exactly_47 rfl (lv_at hl 0 rfl) ?_
  have ⟨h23, hf⟩ := gd_e hf
  refine g_getI hx hb hts hown hK hR fl_M_108 (fun _ => rfl) h23 d_M_exactly_48 ?_
  refine g_nI hf (fun x24 hf => ?_)
  refine lv_iconst (v := 1) hx hb d_M_exactly_51 (by decide) ?_
  refine lv_bipush (v := 60) hx hb d_M_exactly_52 (by decide) ?_
  have ⟨x25, w26, h27, hf⟩ := kl_e hf
  refine g_ki0 (g_rV (As := [.int x24, .int 1, .int 60]) (rest := []) hx hb hml hown hts hK hR hS (c_M_in l D cA oc B N a0 x24 1 60 w20 h27) I_M_in m_1204 mp_27 (gRecv hK hR (ci := 12) rfl h23) rfl rfl (Nat.le_of_ble_eq_true rfl) hl.1 ⟨Nat.le_of_ble_eq_true rfl, Nat.le_of_ble_eq_true rfl⟩ ⟨Nat.le_of_ble_eq_true rfl, Nat.le_of_ble_eq_true rfl⟩ d_M_exactly_54) hS (fun H locs hR hS => ?_)
  refine lv_if_eq (tgt := 81) hx hb d_M_exactly_57 (by decide) (fun hc => ?_) (fun hc => ?_)
  · have hf := cd_t hc hf
    exact c_M_exactly_b81 ih38 C a0 a1 w26 (lv_sub hl [0, 1] rfl) hf hR hS
  have hf := cd_f hc hf
  refine lv_aload_n hx hb d_M_exactly_60 rfl (lv_at hl 0 rfl) ?_
  have ⟨h32, hf⟩ := gd_e hf
  have ⟨x33, h34, hf⟩ := rr_e hf
  refine g_getR hx hb hts hown hK hR fl_M_132 (fun _ => rfl) h32 h34 d_M_exactly_61 ?_
  refine lv_aload_n hx hb d_M_exactly_64 rfl (lv_at hl 0 rfl) ?_
  refine g_getI hx hb hts hown hK hR fl_M_108 (fun _ => rfl) h32 d_M_exactly_65 ?_
  refine g_nI hf (fun x35 hf => ?_)
  refine lv_dup2_11 hx hb d_M_exactly_68 rfl rfl ?_
  have ⟨h36, hf⟩ := gd_e hf
  have ⟨h37, hf⟩ := gd_e hf
  refine g_zald hx hb hK hR h36 h37 d_M_exactly_69 ?_
  refine g_nI hf (fun x38 hf => ?_)
  refine lv_aload_n hx hb d_M_exactly_70 rfl (lv_at hl 0 rfl) ?_
  refine lv_iload_n hx hb d_M_exactly_71 rfl (lv_at hl 1 rfl) ?_
  refine lv_aload_n hx hb d_M_exactly_72 rfl (lv_at hl 0 rfl) ?_
  refine g_getI hx hb hts hown hK hR fl_M_108 (fun _ => rfl) h32 d_M_exactly_73 ?_
  refine g_nI hf (fun x39 hf => ?_)
  have ⟨x40, w41, h42, hf⟩ := kl_e hf
  refine g_ki0 (g_rV (As := [.int a1, .int x39]) (rest := [.int x38, .int x35, .ref (B + x33)]) hx hb hml hown hts hK hR hS (c_M_pays l D cA oc B N a0 a1 x39 w26 h42) I_M_pays m_1360 mp_58 (gRecv hK hR (ci := 12) rfl h32) rfl rfl (Nat.le_of_ble_eq_true rfl) hl.1 ⟨Nat.le_of_ble_eq_true rfl, Nat.le_of_ble_eq_true rfl⟩ ⟨Nat.le_of_ble_eq_true rfl, Nat.le_of_ble_eq_true rfl⟩ d_M_exactly_76) hS (fun H locs hR hS => ?_)
  refine lv_ior hx hb d_M_exactly_79 ?_
  refine g_nI hf (fun x43 hf => ?_)
  have ⟨h44, hf⟩ := gd_e hf
  have ⟨h45, hf⟩ := gd_e hf
  refine g_zast hx hb hK hR hS h44 h45 d_M_exactly_80 (fun H locs hR hS => ?_)
  refine g_nW hf hR (fun w46 hf hR => ?_)
  exact c_M_exactly_b81 ih38 C a0 a1 w46 (lv_sub hl [0, 1] rfl) hf hR hS
theorem c_M_exactly_l38 {r : Int32} {wz : gW} (C : gC p s m args meth c "RidCoppersModel" b_M_exactly 5 (some .int) D cA oc B) (a0 : Nat) (a1 : Int32) (a2 : Int32) (w : gW) {ls : Array Slot} {H : Heap} {locs : List Loc} (hl : lv_has ls 5 [(0, .ref (B + a0)), (1, .int a1), (2, .int a2)]) (hf : f_M_exactly_l38 N a0 a1 a2 w = some (r, wz)) (hR : gRep D cA B w H) (hS : va_S (gA B) s.heap H locs) : W p l e ({ frames := 6, cells := 0, slots := 0, locals := 164 } : Room) s m args below meth c H locs 0 0 (MQ below (gQi D cA B r wz) args s 0 0 (gA B)) (F0 m 38 ls []) := by
  unfold f_M_exactly_l38 at hf
  suffices hh : ∀ n : Nat, ∀ (a0 : Nat) (a1 : Int32) (a2 : Int32) (w : gW) (ls : Array Slot) (H : Heap) (locs : List Loc), itr (fun rec (q : Nat × Int32 × Int32 × gW) => f_M_exactly_b38 N rec q.1 q.2.1 q.2.2.1 q.2.2.2) n (a0, a1, a2, w) = some (r, wz) → lv_has ls 5 [(0, .ref (B + a0)), (1, .int a1), (2, .int a2)] → gRep D cA B w H → va_S (gA B) s.heap H locs → W p l e ({ frames := 6, cells := 0, slots := 0, locals := 164 } : Room) s m args below meth c H locs 0 0 (MQ below (gQi D cA B r wz) args s 0 0 (gA B)) (F0 m 38 ls []) from hh N a0 a1 a2 w ls H locs hf hl hR hS
  intro n
  induction n with
  | zero => intro a0 a1 a2 w ls H locs hf; cases hf
  | succ n ihn =>
    intro a0 a1 a2 w ls H locs hf hl hR hS
    exact c_M_exactly_b38 (N := N) ihn C a0 a1 a2 w hl ((itr_s _ _ _).symm.trans hf) hR hS
set_option maxRecDepth 20000 in
theorem c_M_exactly_b17 {r : Int32} {wz : gW} {rec17 : Nat × Int32 × Int32 × gW → Option (Int32 × gW)} (ih17 : ∀ (a0 : Nat) (a1 : Int32) (a2 : Int32) (w : gW) (ls : Array Slot) (H : Heap) (locs : List Loc), rec17 (a0, a1, a2, w) = some (r, wz) → lv_has ls 5 [(0, .ref (B + a0)), (1, .int a1), (2, .int a2)] → gRep D cA B w H → va_S (gA B) s.heap H locs → W p l e ({ frames := 6, cells := 0, slots := 0, locals := 164 } : Room) s m args below meth c H locs 0 0 (MQ below (gQi D cA B r wz) args s 0 0 (gA B)) (F0 m 17 ls [])) (C : gC p s m args meth c "RidCoppersModel" b_M_exactly 5 (some .int) D cA oc B) (a0 : Nat) (a1 : Int32) (a2 : Int32) (w : gW) {ls : Array Slot} {H : Heap} {locs : List Loc} (hl : lv_has ls 5 [(0, .ref (B + a0)), (1, .int a1), (2, .int a2)]) (hf : f_M_exactly_b17 N rec17 a0 a1 a2 w = some (r, wz)) (hR : gRep D cA B w H) (hS : va_S (gA B) s.heap H locs) : W p l e ({ frames := 6, cells := 0, slots := 0, locals := 164 } : Room) s m args below meth c H locs 0 0 (MQ below (gQi D cA B r wz) args s 0 0 (gA B)) (F0 m 17 ls []) := by
  obtain ⟨hx, hb, hml, hown, hts, hr, hlocks, hK, hBs⟩ := id C
  unfold f_M_exactly_b17 at hf
  refine lv_iload_n hx hb d_M_exactly_17 rfl (lv_at hl 2 rfl) ?_
  refine lv_bipush (v := 61) hx hb d_M_exactly_18 (by decide) ?_
  refine lv_icmp_ge (tgt := 36) hx hb d_M_exactly_20 (by decide) (fun hc => ?_) (fun hc => ?_)
  · have hf := cd_t hc hf
    refine lv_iconst (v := 1) hx hb d_M_exactly_36 (by decide) ?_
    refine lv_istore_n (lv' := [(2, .int 1), (0, .ref (B + a0)), (1, .int a1)]) hx hb d_M_exactly_37 rfl hl (by decide) rfl (fun ls hl => ?_)
    exact c_M_exactly_l38 C a0 a1 1 w (lv_sub hl [1, 2, 0] rfl) hf hR hS
  have hf := cd_f hc hf
  refine lv_aload_n hx hb d_M_exactly_23 rfl (lv_at hl 0 rfl) ?_
  have ⟨h47, hf⟩ := gd_e hf
  have ⟨x48, h49, hf⟩ := rr_e hf
  refine g_getR hx hb hts hown hK hR fl_M_132 (fun _ => rfl) h47 h49 d_M_exactly_24 ?_
  refine lv_iload_n hx hb d_M_exactly_27 rfl (lv_at hl 2 rfl) ?_
  refine lv_iconst (v := 0) hx hb d_M_exactly_28 (by decide) ?_
  have ⟨h50, hf⟩ := gd_e hf
  have ⟨h51, hf⟩ := gd_e hf
  refine g_zast hx hb hK hR hS h50 h51 d_M_exactly_29 (fun H locs hR hS => ?_)
  refine g_nW hf hR (fun w52 hf hR => ?_)
  refine g_iinc (lv' := fun x53 => [(2, .int x53), (0, .ref (B + a0)), (1, .int a1)]) hf hx hb d_M_exactly_30 hl (k := 2) rfl (by decide) (by decide) (fun _ => rfl) (fun x53 ls hf hl => ?_)
  refine lv_goto (tgt := 17) hx hb d_M_exactly_33 (by decide) ?_
  exact ih17 a0 a1 x53 w52 _ _ _ hf (lv_sub hl [1, 2, 0] rfl) hR hS
theorem c_M_exactly_l17 {r : Int32} {wz : gW} (C : gC p s m args meth c "RidCoppersModel" b_M_exactly 5 (some .int) D cA oc B) (a0 : Nat) (a1 : Int32) (a2 : Int32) (w : gW) {ls : Array Slot} {H : Heap} {locs : List Loc} (hl : lv_has ls 5 [(0, .ref (B + a0)), (1, .int a1), (2, .int a2)]) (hf : f_M_exactly_l17 N a0 a1 a2 w = some (r, wz)) (hR : gRep D cA B w H) (hS : va_S (gA B) s.heap H locs) : W p l e ({ frames := 6, cells := 0, slots := 0, locals := 164 } : Room) s m args below meth c H locs 0 0 (MQ below (gQi D cA B r wz) args s 0 0 (gA B)) (F0 m 17 ls []) := by
  unfold f_M_exactly_l17 at hf
  suffices hh : ∀ n : Nat, ∀ (a0 : Nat) (a1 : Int32) (a2 : Int32) (w : gW) (ls : Array Slot) (H : Heap) (locs : List Loc), itr (fun rec (q : Nat × Int32 × Int32 × gW) => f_M_exactly_b17 N rec q.1 q.2.1 q.2.2.1 q.2.2.2) n (a0, a1, a2, w) = some (r, wz) → lv_has ls 5 [(0, .ref (B + a0)), (1, .int a1), (2, .int a2)] → gRep D cA B w H → va_S (gA B) s.heap H locs → W p l e ({ frames := 6, cells := 0, slots := 0, locals := 164 } : Room) s m args below meth c H locs 0 0 (MQ below (gQi D cA B r wz) args s 0 0 (gA B)) (F0 m 17 ls []) from hh N a0 a1 a2 w ls H locs hf hl hR hS
  intro n
  induction n with
  | zero => intro a0 a1 a2 w ls H locs hf; cases hf
  | succ n ihn =>
    intro a0 a1 a2 w ls H locs hf hl hR hS
    exact c_M_exactly_b17 (N := N) ihn C a0 a1 a2 w hl ((itr_s _ _ _).symm.trans hf) hR hS
set_option maxRecDepth 20000 in
theorem c_M_exactly_b0 {r : Int32} {wz : gW} (C : gC p s m args meth c "RidCoppersModel" b_M_exactly 5 (some .int) D cA oc B) (a0 : Nat) (a1 : Int32) (w : gW) {ls : Array Slot} {H : Heap} {locs : List Loc} (hl : lv_has ls 5 [(0, .ref (B + a0)), (1, .int a1)]) (hf : f_M_exactly_b0 N a0 a1 w = some (r, wz)) (hR : gRep D cA B w H) (hS : va_S (gA B) s.heap H locs) : W p l e ({ frames := 6, cells := 0, slots := 0, locals := 164 } : Room) s m args below meth c H locs 0 0 (MQ below (gQi D cA B r wz) args s 0 0 (gA B)) (F0 m 0 ls []) := by
  obtain ⟨hx, hb, hml, hown, hts, hr, hlocks, hK, hBs⟩ := id C
  unfold f_M_exactly_b0 at hf
  refine lv_aload_n hx hb d_M_exactly_0 rfl (lv_at hl 0 rfl) ?_
  refine lv_iload_n hx hb d_M_exactly_1 rfl (lv_at hl 1 rfl) ?_
  have ⟨h4, hf⟩ := gd_e hf
  have ⟨x1, w2, h3, hf⟩ := kl_e hf
  refine g_ki0 (g_rV (As := [.int a1]) (rest := []) hx hb hml hown hts hK hR hS (c_M_isPayer l D cA oc B N a0 a1 w h3) I_M_isPayer m_1212 mp_28 (gRecv hK hR (ci := 12) rfl h4) rfl rfl (Nat.le_of_ble_eq_true rfl) hl.1 ⟨Nat.le_of_ble_eq_true rfl, Nat.le_of_ble_eq_true rfl⟩ ⟨Nat.le_of_ble_eq_true rfl, Nat.le_of_ble_eq_true rfl⟩ d_M_exactly_2) hS (fun H locs hR hS => ?_)
  refine lv_if_ne (tgt := 10) hx hb d_M_exactly_5 (by decide) (fun hc => ?_) (fun hc => ?_)
  · have hf := cd_f hc hf
    refine lv_aload_n hx hb d_M_exactly_10 rfl (lv_at hl 0 rfl) ?_
    refine lv_iload_n hx hb d_M_exactly_11 rfl (lv_at hl 1 rfl) ?_
    have ⟨h8, hf⟩ := gd_e hf
    have ⟨x5, w6, h7, hf⟩ := kl_e hf
    refine g_kv0 (g_rV (As := [.int a1]) (rest := []) hx hb hml hown hts hK hR hS (c_M_layLimits l D cA oc B N a0 a1 w2 h7) I_M_layLimits m_1356 mp_57 (gRecv hK hR (ci := 12) rfl h8) rfl rfl (Nat.le_of_ble_eq_true rfl) hl.1 ⟨Nat.le_of_ble_eq_true rfl, Nat.le_of_ble_eq_true rfl⟩ ⟨Nat.le_of_ble_eq_true rfl, Nat.le_of_ble_eq_true rfl⟩ d_M_exactly_12) hS (fun H locs hR hS => ?_)
    refine lv_iconst (v := 0) hx hb d_M_exactly_15 (by decide) ?_
    refine lv_istore_n (lv' := [(2, .int 0), (0, .ref (B + a0)), (1, .int a1)]) hx hb d_M_exactly_16 rfl hl (by decide) rfl (fun ls hl => ?_)
    exact c_M_exactly_l17 C a0 a1 0 w6 (lv_sub hl [1, 2, 0] rfl) hf hR hS
  have hf := cd_t hc hf
  refine lv_iconst (v := (-1)) hx hb d_M_exactly_8 (by decide) ?_
  exact g_iret hx hb hr hlocks hR hS hf rfl d_M_exactly_9
theorem c_M_exactly (l : Launch) (D : va_G) (cA : Nat → ClassId) (oc : gO) (B N : Nat) (a0 : Nat) (a1 : Int32) (w : gW) {wz : gW} {r : Int32} (hf : f_M_exactly N a0 a1 w = some (r, wz)) : Met l y_M_exactly (Cond.code y_M_exactly b_M_exactly 5 (some .int) :: lw_good) ({ frames := 6, cells := 0, slots := 0, locals := 164 } : Room) (gPre D cA oc B [.ref (B + a0), .int a1] w) (gQi D cA B r wz) 0 0 (gA B) := by
  refine Met.ofW (cc := b_M_exactly) (maxL := 5) (ret := (some .int)) (by decide +kernel) rfl ?_
  intro p e s m args below meth c s₁ Bd hml hv
  obtain ⟨hargs, C, hR⟩ := gC.enter (l := l) rfl Bd hml hv
  subst hargs
  have hl := lv_entry ([.ref (B + a0), .int a1]) (n := 5) (Nat.le_of_ble_eq_true rfl)
  rw [lg_entry_eq]
  generalize (lg_sl ([.ref (B + a0), .int a1]) ++ List.replicate (5 - (lg_sl ([.ref (B + a0), .int a1])).length) Slot.unset).toArray = ls at hl ⊢
  have hl : lv_has ls 5 [(0, .ref (B + a0)), (1, .int a1)] := hl
  exact c_M_exactly_b0 C a0 a1 w (lv_sub hl [0, 1] rfl) hf hR va_S.rf
theorem d_M_price_0 : decode b_M_price 0 = .ok (.iload_n 1, 1) := by decide +kernel
theorem d_M_price_1 : decode b_M_price 1 = .ok (.iconst (-1), 1) := by decide +kernel
theorem d_M_price_2 : decode b_M_price 2 = .ok (.if_icmp .ne 10, 3) := by decide +kernel
theorem d_M_price_5 : decode b_M_price 5 = .ok (.aload_n 0, 1) := by decide +kernel
theorem d_M_price_6 : decode b_M_price 6 = .ok (.iconst 0, 1) := by decide +kernel
theorem d_M_price_7 : decode b_M_price 7 = .ok (.putfield 135, 3) := by decide +kernel
theorem d_M_price_10 : decode b_M_price 10 = .ok (.iconst 0, 1) := by decide +kernel
theorem d_M_price_11 : decode b_M_price 11 = .ok (.ireturn, 1) := by decide +kernel
theorem d_M_price_12 : decode b_M_price 12 = .ok (.aload_n 0, 1) := by decide +kernel
theorem d_M_price_13 : decode b_M_price 13 = .ok (.iload_n 1, 1) := by decide +kernel
theorem d_M_price_14 : decode b_M_price 14 = .ok (.invokevirtual 348, 3) := by decide +kernel
theorem d_M_price_17 : decode b_M_price 17 = .ok (.ifCond .ne 6, 3) := by decide +kernel
theorem d_M_price_20 : decode b_M_price 20 = .ok (.bipush (-2), 2) := by decide +kernel
theorem d_M_price_22 : decode b_M_price 22 = .ok (.ireturn, 1) := by decide +kernel
theorem d_M_price_23 : decode b_M_price 23 = .ok (.aload_n 0, 1) := by decide +kernel
theorem d_M_price_24 : decode b_M_price 24 = .ok (.getfield 135, 3) := by decide +kernel
theorem d_M_price_27 : decode b_M_price 27 = .ok (.iconst 4, 1) := by decide +kernel
theorem d_M_price_28 : decode b_M_price 28 = .ok (.if_icmp .ne 6, 3) := by decide +kernel
theorem d_M_price_31 : decode b_M_price 31 = .ok (.bipush (-4), 2) := by decide +kernel
theorem d_M_price_33 : decode b_M_price 33 = .ok (.ireturn, 1) := by decide +kernel
theorem d_M_price_34 : decode b_M_price 34 = .ok (.aload_n 0, 1) := by decide +kernel
theorem d_M_price_35 : decode b_M_price 35 = .ok (.getfield 138, 3) := by decide +kernel
theorem d_M_price_38 : decode b_M_price 38 = .ok (.aload_n 0, 1) := by decide +kernel
theorem d_M_price_39 : decode b_M_price 39 = .ok (.getfield 135, 3) := by decide +kernel
theorem d_M_price_42 : decode b_M_price 42 = .ok (.iload_n 1, 1) := by decide +kernel
theorem d_M_price_43 : decode b_M_price 43 = .ok (.iastore, 1) := by decide +kernel
theorem d_M_price_44 : decode b_M_price 44 = .ok (.aload_n 0, 1) := by decide +kernel
theorem d_M_price_45 : decode b_M_price 45 = .ok (.dup, 1) := by decide +kernel
theorem d_M_price_46 : decode b_M_price 46 = .ok (.getfield 135, 3) := by decide +kernel
theorem d_M_price_49 : decode b_M_price 49 = .ok (.iconst 1, 1) := by decide +kernel
theorem d_M_price_50 : decode b_M_price 50 = .ok (.iadd, 1) := by decide +kernel
theorem d_M_price_51 : decode b_M_price 51 = .ok (.putfield 135, 3) := by decide +kernel
theorem d_M_price_54 : decode b_M_price 54 = .ok (.aload_n 0, 1) := by decide +kernel
theorem d_M_price_55 : decode b_M_price 55 = .ok (.getfield 135, 3) := by decide +kernel
theorem d_M_price_58 : decode b_M_price 58 = .ok (.ireturn, 1) := by decide +kernel
set_option maxRecDepth 20000 in
theorem c_M_price_b0 {r : Int32} {wz : gW} (C : gC p s m args meth c "RidCoppersModel" b_M_price 2 (some .int) D cA oc B) (a0 : Nat) (a1 : Int32) (w : gW) {ls : Array Slot} {H : Heap} {locs : List Loc} (hl : lv_has ls 2 [(0, .ref (B + a0)), (1, .int a1)]) (hf : f_M_price_b0 N a0 a1 w = some (r, wz)) (hR : gRep D cA B w H) (hS : va_S (gA B) s.heap H locs) : W p l e ({ frames := 3, cells := 0, slots := 0, locals := 84 } : Room) s m args below meth c H locs 0 0 (MQ below (gQi D cA B r wz) args s 0 0 (gA B)) (F0 m 0 ls []) := by
  obtain ⟨hx, hb, hml, hown, hts, hr, hlocks, hK, hBs⟩ := id C
  unfold f_M_price_b0 at hf
  refine lv_iload_n hx hb d_M_price_0 rfl (lv_at hl 1 rfl) ?_
  refine lv_iconst (v := (-1)) hx hb d_M_price_1 (by decide) ?_
  refine lv_icmp_ne (tgt := 12) hx hb d_M_price_2 (by decide) (fun hc => ?_) (fun hc => ?_)
  · have hf := cd_f hc hf
    refine lv_aload_n hx hb d_M_price_12 rfl (lv_at hl 0 rfl) ?_
    refine lv_iload_n hx hb d_M_price_13 rfl (lv_at hl 1 rfl) ?_
    have ⟨h4, hf⟩ := gd_e hf
    have ⟨x1, w2, h3, hf⟩ := kl_e hf
    refine g_ki0 (g_rV (As := [.int a1]) (rest := []) hx hb hml hown hts hK hR hS (c_M_isPrice l D cA oc B N a0 a1 w h3) I_M_isPrice m_1344 mp_54 (gRecv hK hR (ci := 12) rfl h4) rfl rfl (Nat.le_of_ble_eq_true rfl) hl.1 ⟨Nat.le_of_ble_eq_true rfl, Nat.le_of_ble_eq_true rfl⟩ ⟨Nat.le_of_ble_eq_true rfl, Nat.le_of_ble_eq_true rfl⟩ d_M_price_14) hS (fun H locs hR hS => ?_)
    refine lv_if_ne (tgt := 23) hx hb d_M_price_17 (by decide) (fun hc => ?_) (fun hc => ?_)
    · have hf := cd_f hc hf
      refine lv_aload_n hx hb d_M_price_23 rfl (lv_at hl 0 rfl) ?_
      have ⟨h5, hf⟩ := gd_e hf
      refine g_getI hx hb hts hown hK hR fl_M_135 (fun _ => rfl) h5 d_M_price_24 ?_
      refine g_nI hf (fun x6 hf => ?_)
      refine lv_iconst (v := 4) hx hb d_M_price_27 (by decide) ?_
      refine lv_icmp_ne (tgt := 34) hx hb d_M_price_28 (by decide) (fun hc => ?_) (fun hc => ?_)
      · have hf := cd_f hc hf
        refine lv_aload_n hx hb d_M_price_34 rfl (lv_at hl 0 rfl) ?_
        have ⟨x7, h8, hf⟩ := rr_e hf
        refine g_getR hx hb hts hown hK hR fl_M_138 (fun _ => rfl) h5 h8 d_M_price_35 ?_
        refine lv_aload_n hx hb d_M_price_38 rfl (lv_at hl 0 rfl) ?_
        refine g_getI hx hb hts hown hK hR fl_M_135 (fun _ => rfl) h5 d_M_price_39 ?_
        refine g_nI hf (fun x9 hf => ?_)
        refine lv_iload_n hx hb d_M_price_42 rfl (lv_at hl 1 rfl) ?_
        have ⟨h10, hf⟩ := gd_e hf
        have ⟨h11, hf⟩ := gd_e hf
        refine g_iast hx hb hK hR hS h10 h11 d_M_price_43 (fun H locs hR hS => ?_)
        refine g_nW hf hR (fun w12 hf hR => ?_)
        refine lv_aload_n hx hb d_M_price_44 rfl (lv_at hl 0 rfl) ?_
        refine lv_dup hx hb d_M_price_45 rfl ?_
        have ⟨h13, hf⟩ := gd_e hf
        refine g_getI hx hb hts hown hK hR fl_M_135 (fun _ => rfl) h13 d_M_price_46 ?_
        refine g_nI hf (fun x14 hf => ?_)
        refine lv_iconst (v := 1) hx hb d_M_price_49 (by decide) ?_
        refine lv_iadd hx hb d_M_price_50 ?_
        refine g_nI hf (fun x15 hf => ?_)
        refine g_putI hx hb hts hown hK hR hS pf_M_135 (fun _ => rfl) rfl rfl h13 d_M_price_51 (fun H locs hR hS => ?_)
        refine g_nW hf hR (fun w16 hf hR => ?_)
        refine lv_aload_n hx hb d_M_price_54 rfl (lv_at hl 0 rfl) ?_
        have ⟨h17, hf⟩ := gd_e hf
        refine g_getI hx hb hts hown hK hR fl_M_135 (fun _ => rfl) h17 d_M_price_55 ?_
        refine g_nI hf (fun x18 hf => ?_)
        exact g_iret hx hb hr hlocks hR hS hf rfl d_M_price_58
      have hf := cd_t hc hf
      refine lv_bipush (v := (-4)) hx hb d_M_price_31 (by decide) ?_
      exact g_iret hx hb hr hlocks hR hS hf rfl d_M_price_33
    have hf := cd_t hc hf
    refine lv_bipush (v := (-2)) hx hb d_M_price_20 (by decide) ?_
    exact g_iret hx hb hr hlocks hR hS hf rfl d_M_price_22
  have hf := cd_t hc hf
  refine lv_aload_n hx hb d_M_price_5 rfl (lv_at hl 0 rfl) ?_
  refine lv_iconst (v := 0) hx hb d_M_price_6 (by decide) ?_
  have ⟨h19, hf⟩ := gd_e hf
  refine g_putI hx hb hts hown hK hR hS pf_M_135 (fun _ => rfl) rfl rfl h19 d_M_price_7 (fun H locs hR hS => ?_)
  refine g_nW hf hR (fun w20 hf hR => ?_)
  refine lv_iconst (v := 0) hx hb d_M_price_10 (by decide) ?_
  exact g_iret hx hb hr hlocks hR hS hf rfl d_M_price_11
theorem c_M_price (l : Launch) (D : va_G) (cA : Nat → ClassId) (oc : gO) (B N : Nat) (a0 : Nat) (a1 : Int32) (w : gW) {wz : gW} {r : Int32} (hf : f_M_price N a0 a1 w = some (r, wz)) : Met l y_M_price (Cond.code y_M_price b_M_price 2 (some .int) :: lw_good) ({ frames := 3, cells := 0, slots := 0, locals := 84 } : Room) (gPre D cA oc B [.ref (B + a0), .int a1] w) (gQi D cA B r wz) 0 0 (gA B) := by
  refine Met.ofW (cc := b_M_price) (maxL := 2) (ret := (some .int)) (by decide +kernel) rfl ?_
  intro p e s m args below meth c s₁ Bd hml hv
  obtain ⟨hargs, C, hR⟩ := gC.enter (l := l) rfl Bd hml hv
  subst hargs
  have hl := lv_entry ([.ref (B + a0), .int a1]) (n := 2) (Nat.le_of_ble_eq_true rfl)
  rw [lg_entry_eq]
  generalize (lg_sl ([.ref (B + a0), .int a1]) ++ List.replicate (2 - (lg_sl ([.ref (B + a0), .int a1])).length) Slot.unset).toArray = ls at hl ⊢
  have hl : lv_has ls 2 [(0, .ref (B + a0)), (1, .int a1)] := hl
  exact c_M_price_b0 C a0 a1 w (lv_sub hl [0, 1] rfl) hf hR va_S.rf
theorem d_M_goesRow_0 : decode b_M_goesRow 0 = .ok (.aload_n 0, 1) := by decide +kernel
theorem d_M_goesRow_1 : decode b_M_goesRow 1 = .ok (.invokevirtual 357, 3) := by decide +kernel
theorem d_M_goesRow_4 : decode b_M_goesRow 4 = .ok (.iconst 0, 1) := by decide +kernel
theorem d_M_goesRow_5 : decode b_M_goesRow 5 = .ok (.istore_n 2, 1) := by decide +kernel
theorem d_M_goesRow_6 : decode b_M_goesRow 6 = .ok (.iconst 0, 1) := by decide +kernel
theorem d_M_goesRow_7 : decode b_M_goesRow 7 = .ok (.istore_n 3, 1) := by decide +kernel
theorem d_M_goesRow_8 : decode b_M_goesRow 8 = .ok (.iload_n 3, 1) := by decide +kernel
theorem d_M_goesRow_9 : decode b_M_goesRow 9 = .ok (.aload_n 0, 1) := by decide +kernel
theorem d_M_goesRow_10 : decode b_M_goesRow 10 = .ok (.getfield 135, 3) := by decide +kernel
theorem d_M_goesRow_13 : decode b_M_goesRow 13 = .ok (.if_icmp .ge 31, 3) := by decide +kernel
theorem d_M_goesRow_16 : decode b_M_goesRow 16 = .ok (.iload_n 2, 1) := by decide +kernel
theorem d_M_goesRow_17 : decode b_M_goesRow 17 = .ok (.aload_n 0, 1) := by decide +kernel
theorem d_M_goesRow_18 : decode b_M_goesRow 18 = .ok (.iload_n 1, 1) := by decide +kernel
theorem d_M_goesRow_19 : decode b_M_goesRow 19 = .ok (.aload_n 0, 1) := by decide +kernel
theorem d_M_goesRow_20 : decode b_M_goesRow 20 = .ok (.getfield 138, 3) := by decide +kernel
theorem d_M_goesRow_23 : decode b_M_goesRow 23 = .ok (.iload_n 3, 1) := by decide +kernel
theorem d_M_goesRow_24 : decode b_M_goesRow 24 = .ok (.iaload, 1) := by decide +kernel
theorem d_M_goesRow_25 : decode b_M_goesRow 25 = .ok (.invokevirtual 351, 3) := by decide +kernel
theorem d_M_goesRow_28 : decode b_M_goesRow 28 = .ok (.ifCond .eq 7, 3) := by decide +kernel
theorem d_M_goesRow_31 : decode b_M_goesRow 31 = .ok (.iconst 1, 1) := by decide +kernel
theorem d_M_goesRow_32 : decode b_M_goesRow 32 = .ok (.goto 4, 3) := by decide +kernel
theorem d_M_goesRow_35 : decode b_M_goesRow 35 = .ok (.iconst 0, 1) := by decide +kernel
theorem d_M_goesRow_36 : decode b_M_goesRow 36 = .ok (.iadd, 1) := by decide +kernel
theorem d_M_goesRow_37 : decode b_M_goesRow 37 = .ok (.istore_n 2, 1) := by decide +kernel
theorem d_M_goesRow_38 : decode b_M_goesRow 38 = .ok (.iinc 3 1, 3) := by decide +kernel
theorem d_M_goesRow_41 : decode b_M_goesRow 41 = .ok (.goto (-33), 3) := by decide +kernel
theorem d_M_goesRow_44 : decode b_M_goesRow 44 = .ok (.aload_n 0, 1) := by decide +kernel
theorem d_M_goesRow_45 : decode b_M_goesRow 45 = .ok (.aload_n 0, 1) := by decide +kernel
theorem d_M_goesRow_46 : decode b_M_goesRow 46 = .ok (.iload_n 1, 1) := by decide +kernel
theorem d_M_goesRow_47 : decode b_M_goesRow 47 = .ok (.invokevirtual 312, 3) := by decide +kernel
theorem d_M_goesRow_50 : decode b_M_goesRow 50 = .ok (.putfield 126, 3) := by decide +kernel
theorem d_M_goesRow_53 : decode b_M_goesRow 53 = .ok (.aload_n 0, 1) := by decide +kernel
theorem d_M_goesRow_54 : decode b_M_goesRow 54 = .ok (.aload_n 0, 1) := by decide +kernel
theorem d_M_goesRow_55 : decode b_M_goesRow 55 = .ok (.iload_n 1, 1) := by decide +kernel
theorem d_M_goesRow_56 : decode b_M_goesRow 56 = .ok (.invokevirtual 315, 3) := by decide +kernel
theorem d_M_goesRow_59 : decode b_M_goesRow 59 = .ok (.putfield 129, 3) := by decide +kernel
theorem d_M_goesRow_62 : decode b_M_goesRow 62 = .ok (.aload_n 0, 1) := by decide +kernel
theorem d_M_goesRow_63 : decode b_M_goesRow 63 = .ok (.invokevirtual 360, 3) := by decide +kernel
theorem d_M_goesRow_66 : decode b_M_goesRow 66 = .ok (.iload_n 2, 1) := by decide +kernel
theorem d_M_goesRow_67 : decode b_M_goesRow 67 = .ok (.ireturn, 1) := by decide +kernel
set_option maxRecDepth 20000 in
theorem c_M_goesRow_b8 {r : Int32} {wz : gW} {rec8 : Nat × Int32 × Int32 × Int32 × gW → Option (Int32 × gW)} (ih8 : ∀ (a0 : Nat) (a1 : Int32) (a2 : Int32) (a3 : Int32) (w : gW) (ls : Array Slot) (H : Heap) (locs : List Loc), rec8 (a0, a1, a2, a3, w) = some (r, wz) → lv_has ls 4 [(0, .ref (B + a0)), (1, .int a1), (2, .int a2), (3, .int a3)] → gRep D cA B w H → va_S (gA B) s.heap H locs → W p l e ({ frames := 8, cells := 0, slots := 0, locals := 213 } : Room) s m args below meth c H locs 0 0 (MQ below (gQi D cA B r wz) args s 0 0 (gA B)) (F0 m 8 ls [])) (C : gC p s m args meth c "RidCoppersModel" b_M_goesRow 4 (some .int) D cA oc B) (a0 : Nat) (a1 : Int32) (a2 : Int32) (a3 : Int32) (w : gW) {ls : Array Slot} {H : Heap} {locs : List Loc} (hl : lv_has ls 4 [(0, .ref (B + a0)), (1, .int a1), (2, .int a2), (3, .int a3)]) (hf : f_M_goesRow_b8 N rec8 a0 a1 a2 a3 w = some (r, wz)) (hR : gRep D cA B w H) (hS : va_S (gA B) s.heap H locs) : W p l e ({ frames := 8, cells := 0, slots := 0, locals := 213 } : Room) s m args below meth c H locs 0 0 (MQ below (gQi D cA B r wz) args s 0 0 (gA B)) (F0 m 8 ls []) := by
  obtain ⟨hx, hb, hml, hown, hts, hr, hlocks, hK, hBs⟩ := id C
  unfold f_M_goesRow_b8 at hf
  refine lv_iload_n hx hb d_M_goesRow_8 rfl (lv_at hl 3 rfl) ?_
  refine lv_aload_n hx hb d_M_goesRow_9 rfl (lv_at hl 0 rfl) ?_
  have ⟨h5, hf⟩ := gd_e hf
  refine g_getI hx hb hts hown hK hR fl_M_135 (fun _ => rfl) h5 d_M_goesRow_10 ?_
  refine g_nI hf (fun x6 hf => ?_)
  refine lv_icmp_ge (tgt := 44) hx hb d_M_goesRow_13 (by decide) (fun hc => ?_) (fun hc => ?_)
  · have hf := cd_t hc hf
    refine lv_aload_n hx hb d_M_goesRow_44 rfl (lv_at hl 0 rfl) ?_
    refine lv_aload_n hx hb d_M_goesRow_45 rfl (lv_at hl 0 rfl) ?_
    refine lv_iload_n hx hb d_M_goesRow_46 rfl (lv_at hl 1 rfl) ?_
    have ⟨x7, w8, h9, hf⟩ := kl_e hf
    refine g_ki0 (g_rV (As := [.int a1]) (rest := [.ref (B + a0)]) hx hb hml hown hts hK hR hS (c_M_weight l D cA oc B N a0 a1 w h9) I_M_weight m_1320 mp_50 (gRecv hK hR (ci := 12) rfl h5) rfl rfl (Nat.le_of_ble_eq_true rfl) hl.1 ⟨Nat.le_of_ble_eq_true rfl, Nat.le_of_ble_eq_true rfl⟩ ⟨Nat.le_of_ble_eq_true rfl, Nat.le_of_ble_eq_true rfl⟩ d_M_goesRow_47) hS (fun H locs hR hS => ?_)
    have ⟨h10, hf⟩ := gd_e hf
    refine g_putI hx hb hts hown hK hR hS pf_M_126 (fun _ => rfl) rfl rfl h10 d_M_goesRow_50 (fun H locs hR hS => ?_)
    refine g_nW hf hR (fun w11 hf hR => ?_)
    refine lv_aload_n hx hb d_M_goesRow_53 rfl (lv_at hl 0 rfl) ?_
    refine lv_aload_n hx hb d_M_goesRow_54 rfl (lv_at hl 0 rfl) ?_
    refine lv_iload_n hx hb d_M_goesRow_55 rfl (lv_at hl 1 rfl) ?_
    have ⟨h15, hf⟩ := gd_e hf
    have ⟨x12, w13, h14, hf⟩ := kl_e hf
    refine g_ki0 (g_rV (As := [.int a1]) (rest := [.ref (B + a0)]) hx hb hml hown hts hK hR hS (c_M_coins l D cA oc B N a0 a1 w11 h14) I_M_coins m_1328 mp_52 (gRecv hK hR (ci := 12) rfl h15) rfl rfl (Nat.le_of_ble_eq_true rfl) hl.1 ⟨Nat.le_of_ble_eq_true rfl, Nat.le_of_ble_eq_true rfl⟩ ⟨Nat.le_of_ble_eq_true rfl, Nat.le_of_ble_eq_true rfl⟩ d_M_goesRow_56) hS (fun H locs hR hS => ?_)
    have ⟨h16, hf⟩ := gd_e hf
    refine g_putI hx hb hts hown hK hR hS pf_M_129 (fun _ => rfl) rfl rfl h16 d_M_goesRow_59 (fun H locs hR hS => ?_)
    refine g_nW hf hR (fun w17 hf hR => ?_)
    refine lv_aload_n hx hb d_M_goesRow_62 rfl (lv_at hl 0 rfl) ?_
    have ⟨h21, hf⟩ := gd_e hf
    have ⟨x18, w19, h20, hf⟩ := kl_e hf
    refine g_kv0 (g_rV (As := []) (rest := []) hx hb hml hown hts hK hR hS (c_M_putBack l D cA oc B N a0 w17 h20) I_M_putBack m_1404 mp_68 (gRecv hK hR (ci := 12) rfl h21) rfl rfl (Nat.le_of_ble_eq_true rfl) hl.1 ⟨Nat.le_of_ble_eq_true rfl, Nat.le_of_ble_eq_true rfl⟩ ⟨Nat.le_of_ble_eq_true rfl, Nat.le_of_ble_eq_true rfl⟩ d_M_goesRow_63) hS (fun H locs hR hS => ?_)
    refine lv_iload_n hx hb d_M_goesRow_66 rfl (lv_at hl 2 rfl) ?_
    exact g_iret hx hb hr hlocks hR hS hf rfl d_M_goesRow_67
  have hf := cd_f hc hf
  refine lv_iload_n hx hb d_M_goesRow_16 rfl (lv_at hl 2 rfl) ?_
  refine lv_aload_n hx hb d_M_goesRow_17 rfl (lv_at hl 0 rfl) ?_
  refine lv_iload_n hx hb d_M_goesRow_18 rfl (lv_at hl 1 rfl) ?_
  refine lv_aload_n hx hb d_M_goesRow_19 rfl (lv_at hl 0 rfl) ?_
  have ⟨x22, h23, hf⟩ := rr_e hf
  refine g_getR hx hb hts hown hK hR fl_M_138 (fun _ => rfl) h5 h23 d_M_goesRow_20 ?_
  refine lv_iload_n hx hb d_M_goesRow_23 rfl (lv_at hl 3 rfl) ?_
  have ⟨h24, hf⟩ := gd_e hf
  have ⟨h25, hf⟩ := gd_e hf
  refine g_iald hx hb hK hR h24 h25 d_M_goesRow_24 ?_
  refine g_nI hf (fun x26 hf => ?_)
  have ⟨x27, w28, h29, hf⟩ := kl_e hf
  refine g_ki0 (g_rV (As := [.int a1, .int x26]) (rest := [.int a2]) hx hb hml hown hts hK hR hS (c_M_goes l D cA oc B N a0 a1 x26 w h29) I_M_goes m_1348 mp_55 (gRecv hK hR (ci := 12) rfl h5) rfl rfl (Nat.le_of_ble_eq_true rfl) hl.1 ⟨Nat.le_of_ble_eq_true rfl, Nat.le_of_ble_eq_true rfl⟩ ⟨Nat.le_of_ble_eq_true rfl, Nat.le_of_ble_eq_true rfl⟩ d_M_goesRow_25) hS (fun H locs hR hS => ?_)
  refine lv_if_eq (tgt := 35) hx hb d_M_goesRow_28 (by decide) (fun hc => ?_) (fun hc => ?_)
  · have hf := cd_t hc hf
    refine lv_iconst (v := 0) hx hb d_M_goesRow_35 (by decide) ?_
    refine lv_iadd hx hb d_M_goesRow_36 ?_
    refine g_nI hf (fun x30 hf => ?_)
    refine lv_istore_n (lv' := [(2, .int x30), (0, .ref (B + a0)), (1, .int a1), (3, .int a3)]) hx hb d_M_goesRow_37 rfl hl (by decide) rfl (fun ls hl => ?_)
    refine g_iinc (lv' := fun x31 => [(3, .int x31), (2, .int x30), (0, .ref (B + a0)), (1, .int a1)]) hf hx hb d_M_goesRow_38 hl (k := 3) rfl (by decide) (by decide) (fun _ => rfl) (fun x31 ls hf hl => ?_)
    refine lv_goto (tgt := 8) hx hb d_M_goesRow_41 (by decide) ?_
    exact ih8 a0 a1 x30 x31 w28 _ _ _ hf (lv_sub hl [2, 3, 1, 0] rfl) hR hS
  have hf := cd_f hc hf
  refine lv_iconst (v := 1) hx hb d_M_goesRow_31 (by decide) ?_
  refine lv_goto (tgt := 36) hx hb d_M_goesRow_32 (by decide) ?_
  refine lv_iadd hx hb d_M_goesRow_36 ?_
  refine g_nI hf (fun x32 hf => ?_)
  refine lv_istore_n (lv' := [(2, .int x32), (0, .ref (B + a0)), (1, .int a1), (3, .int a3)]) hx hb d_M_goesRow_37 rfl hl (by decide) rfl (fun ls hl => ?_)
  refine g_iinc (lv' := fun x33 => [(3, .int x33), (2, .int x32), (0, .ref (B + a0)), (1, .int a1)]) hf hx hb d_M_goesRow_38 hl (k := 3) rfl (by decide) (by decide) (fun _ => rfl) (fun x33 ls hf hl => ?_)
  refine lv_goto (tgt := 8) hx hb d_M_goesRow_41 (by decide) ?_
  exact ih8 a0 a1 x32 x33 w28 _ _ _ hf (lv_sub hl [2, 3, 1, 0] rfl) hR hS
theorem c_M_goesRow_l8 {r : Int32} {wz : gW} (C : gC p s m args meth c "RidCoppersModel" b_M_goesRow 4 (some .int) D cA oc B) (a0 : Nat) (a1 : Int32) (a2 : Int32) (a3 : Int32) (w : gW) {ls : Array Slot} {H : Heap} {locs : List Loc} (hl : lv_has ls 4 [(0, .ref (B + a0)), (1, .int a1), (2, .int a2), (3, .int a3)]) (hf : f_M_goesRow_l8 N a0 a1 a2 a3 w = some (r, wz)) (hR : gRep D cA B w H) (hS : va_S (gA B) s.heap H locs) : W p l e ({ frames := 8, cells := 0, slots := 0, locals := 213 } : Room) s m args below meth c H locs 0 0 (MQ below (gQi D cA B r wz) args s 0 0 (gA B)) (F0 m 8 ls []) := by
  unfold f_M_goesRow_l8 at hf
  suffices hh : ∀ n : Nat, ∀ (a0 : Nat) (a1 : Int32) (a2 : Int32) (a3 : Int32) (w : gW) (ls : Array Slot) (H : Heap) (locs : List Loc), itr (fun rec (q : Nat × Int32 × Int32 × Int32 × gW) => f_M_goesRow_b8 N rec q.1 q.2.1 q.2.2.1 q.2.2.2.1 q.2.2.2.2) n (a0, a1, a2, a3, w) = some (r, wz) → lv_has ls 4 [(0, .ref (B + a0)), (1, .int a1), (2, .int a2), (3, .int a3)] → gRep D cA B w H → va_S (gA B) s.heap H locs → W p l e ({ frames := 8, cells := 0, slots := 0, locals := 213 } : Room) s m args below meth c H locs 0 0 (MQ below (gQi D cA B r wz) args s 0 0 (gA B)) (F0 m 8 ls []) from hh N a0 a1 a2 a3 w ls H locs hf hl hR hS
  intro n
  induction n with
  | zero => intro a0 a1 a2 a3 w ls H locs hf; cases hf
  | succ n ihn =>
    intro a0 a1 a2 a3 w ls H locs hf hl hR hS
    exact c_M_goesRow_b8 (N := N) ihn C a0 a1 a2 a3 w hl ((itr_s _ _ _).symm.trans hf) hR hS
set_option maxRecDepth 20000 in
theorem c_M_goesRow_b0 {r : Int32} {wz : gW} (C : gC p s m args meth c "RidCoppersModel" b_M_goesRow 4 (some .int) D cA oc B) (a0 : Nat) (a1 : Int32) (w : gW) {ls : Array Slot} {H : Heap} {locs : List Loc} (hl : lv_has ls 4 [(0, .ref (B + a0)), (1, .int a1)]) (hf : f_M_goesRow_b0 N a0 a1 w = some (r, wz)) (hR : gRep D cA B w H) (hS : va_S (gA B) s.heap H locs) : W p l e ({ frames := 8, cells := 0, slots := 0, locals := 213 } : Room) s m args below meth c H locs 0 0 (MQ below (gQi D cA B r wz) args s 0 0 (gA B)) (F0 m 0 ls []) := by
  obtain ⟨hx, hb, hml, hown, hts, hr, hlocks, hK, hBs⟩ := id C
  unfold f_M_goesRow_b0 at hf
  refine lv_aload_n hx hb d_M_goesRow_0 rfl (lv_at hl 0 rfl) ?_
  have ⟨h4, hf⟩ := gd_e hf
  have ⟨x1, w2, h3, hf⟩ := kl_e hf
  refine g_kv0 (g_rV (As := []) (rest := []) hx hb hml hown hts hK hR hS (c_M_save l D cA oc B N a0 w h3) I_M_save m_1400 mp_67 (gRecv hK hR (ci := 12) rfl h4) rfl rfl (Nat.le_of_ble_eq_true rfl) hl.1 ⟨Nat.le_of_ble_eq_true rfl, Nat.le_of_ble_eq_true rfl⟩ ⟨Nat.le_of_ble_eq_true rfl, Nat.le_of_ble_eq_true rfl⟩ d_M_goesRow_1) hS (fun H locs hR hS => ?_)
  refine lv_iconst (v := 0) hx hb d_M_goesRow_4 (by decide) ?_
  refine lv_istore_n (lv' := [(2, .int 0), (0, .ref (B + a0)), (1, .int a1)]) hx hb d_M_goesRow_5 rfl hl (by decide) rfl (fun ls hl => ?_)
  refine lv_iconst (v := 0) hx hb d_M_goesRow_6 (by decide) ?_
  refine lv_istore_n (lv' := [(3, .int 0), (2, .int 0), (0, .ref (B + a0)), (1, .int a1)]) hx hb d_M_goesRow_7 rfl hl (by decide) rfl (fun ls hl => ?_)
  exact c_M_goesRow_l8 C a0 a1 0 0 w2 (lv_sub hl [2, 3, 1, 0] rfl) hf hR hS
theorem c_M_goesRow (l : Launch) (D : va_G) (cA : Nat → ClassId) (oc : gO) (B N : Nat) (a0 : Nat) (a1 : Int32) (w : gW) {wz : gW} {r : Int32} (hf : f_M_goesRow N a0 a1 w = some (r, wz)) : Met l y_M_goesRow (Cond.code y_M_goesRow b_M_goesRow 4 (some .int) :: lw_good) ({ frames := 8, cells := 0, slots := 0, locals := 213 } : Room) (gPre D cA oc B [.ref (B + a0), .int a1] w) (gQi D cA B r wz) 0 0 (gA B) := by
  refine Met.ofW (cc := b_M_goesRow) (maxL := 4) (ret := (some .int)) (by decide +kernel) rfl ?_
  intro p e s m args below meth c s₁ Bd hml hv
  obtain ⟨hargs, C, hR⟩ := gC.enter (l := l) rfl Bd hml hv
  subst hargs
  have hl := lv_entry ([.ref (B + a0), .int a1]) (n := 4) (Nat.le_of_ble_eq_true rfl)
  rw [lg_entry_eq]
  generalize (lg_sl ([.ref (B + a0), .int a1]) ++ List.replicate (4 - (lg_sl ([.ref (B + a0), .int a1])).length) Slot.unset).toArray = ls at hl ⊢
  have hl : lv_has ls 4 [(0, .ref (B + a0)), (1, .int a1)] := hl
  exact c_M_goesRow_b0 C a0 a1 w (lv_sub hl [0, 1] rfl) hf hR va_S.rf
theorem d_M_behind_0 : decode b_M_behind 0 = .ok (.aload_n 0, 1) := by decide +kernel
theorem d_M_behind_1 : decode b_M_behind 1 = .ok (.iload_n 1, 1) := by decide +kernel
theorem d_M_behind_2 : decode b_M_behind 2 = .ok (.invokevirtual 234, 3) := by decide +kernel
theorem d_M_behind_5 : decode b_M_behind 5 = .ok (.ifCond .eq 13, 3) := by decide +kernel
theorem d_M_behind_8 : decode b_M_behind 8 = .ok (.aload_n 0, 1) := by decide +kernel
theorem d_M_behind_9 : decode b_M_behind 9 = .ok (.iload_n 2, 1) := by decide +kernel
theorem d_M_behind_10 : decode b_M_behind 10 = .ok (.iconst 0, 1) := by decide +kernel
theorem d_M_behind_11 : decode b_M_behind 11 = .ok (.iconst 2, 1) := by decide +kernel
theorem d_M_behind_12 : decode b_M_behind 12 = .ok (.invokevirtual 230, 3) := by decide +kernel
theorem d_M_behind_15 : decode b_M_behind 15 = .ok (.ifCond .ne 5, 3) := by decide +kernel
theorem d_M_behind_18 : decode b_M_behind 18 = .ok (.iconst (-1), 1) := by decide +kernel
theorem d_M_behind_19 : decode b_M_behind 19 = .ok (.ireturn, 1) := by decide +kernel
theorem d_M_behind_20 : decode b_M_behind 20 = .ok (.aload_n 0, 1) := by decide +kernel
theorem d_M_behind_21 : decode b_M_behind 21 = .ok (.iload_n 1, 1) := by decide +kernel
theorem d_M_behind_22 : decode b_M_behind 22 = .ok (.invokevirtual 369, 3) := by decide +kernel
theorem d_M_behind_25 : decode b_M_behind 25 = .ok (.istore_n 3, 1) := by decide +kernel
theorem d_M_behind_26 : decode b_M_behind 26 = .ok (.iload_n 2, 1) := by decide +kernel
theorem d_M_behind_27 : decode b_M_behind 27 = .ok (.ifCond .ne 10, 3) := by decide +kernel
theorem d_M_behind_30 : decode b_M_behind 30 = .ok (.aload_n 0, 1) := by decide +kernel
theorem d_M_behind_31 : decode b_M_behind 31 = .ok (.getfield 126, 3) := by decide +kernel
theorem d_M_behind_34 : decode b_M_behind 34 = .ok (.goto 16, 3) := by decide +kernel
theorem d_M_behind_37 : decode b_M_behind 37 = .ok (.iload_n 2, 1) := by decide +kernel
theorem d_M_behind_38 : decode b_M_behind 38 = .ok (.iconst 1, 1) := by decide +kernel
theorem d_M_behind_39 : decode b_M_behind 39 = .ok (.if_icmp .ne 10, 3) := by decide +kernel
theorem d_M_behind_42 : decode b_M_behind 42 = .ok (.aload_n 0, 1) := by decide +kernel
theorem d_M_behind_43 : decode b_M_behind 43 = .ok (.getfield 129, 3) := by decide +kernel
theorem d_M_behind_46 : decode b_M_behind 46 = .ok (.goto 4, 3) := by decide +kernel
theorem d_M_behind_49 : decode b_M_behind 49 = .ok (.iload_n 3, 1) := by decide +kernel
theorem d_M_behind_50 : decode b_M_behind 50 = .ok (.ireturn, 1) := by decide +kernel
set_option maxRecDepth 20000 in
theorem c_M_behind_b0 {r : Int32} {wz : gW} (C : gC p s m args meth c "RidCoppersModel" b_M_behind 4 (some .int) D cA oc B) (a0 : Nat) (a1 : Int32) (a2 : Int32) (w : gW) {ls : Array Slot} {H : Heap} {locs : List Loc} (hl : lv_has ls 4 [(0, .ref (B + a0)), (1, .int a1), (2, .int a2)]) (hf : f_M_behind_b0 N a0 a1 a2 w = some (r, wz)) (hR : gRep D cA B w H) (hS : va_S (gA B) s.heap H locs) : W p l e ({ frames := 9, cells := 0, slots := 0, locals := 236 } : Room) s m args below meth c H locs 0 0 (MQ below (gQi D cA B r wz) args s 0 0 (gA B)) (F0 m 0 ls []) := by
  obtain ⟨hx, hb, hml, hown, hts, hr, hlocks, hK, hBs⟩ := id C
  unfold f_M_behind_b0 at hf
  refine lv_aload_n hx hb d_M_behind_0 rfl (lv_at hl 0 rfl) ?_
  refine lv_iload_n hx hb d_M_behind_1 rfl (lv_at hl 1 rfl) ?_
  have ⟨h4, hf⟩ := gd_e hf
  have ⟨x1, w2, h3, hf⟩ := kl_e hf
  refine g_ki0 (g_rV (As := [.int a1]) (rest := []) hx hb hml hown hts hK hR hS (c_M_isPayer l D cA oc B N a0 a1 w h3) I_M_isPayer m_1212 mp_28 (gRecv hK hR (ci := 12) rfl h4) rfl rfl (Nat.le_of_ble_eq_true rfl) hl.1 ⟨Nat.le_of_ble_eq_true rfl, Nat.le_of_ble_eq_true rfl⟩ ⟨Nat.le_of_ble_eq_true rfl, Nat.le_of_ble_eq_true rfl⟩ d_M_behind_2) hS (fun H locs hR hS => ?_)
  refine lv_if_eq (tgt := 18) hx hb d_M_behind_5 (by decide) (fun hc => ?_) (fun hc => ?_)
  · have hf := cd_t hc hf
    refine lv_iconst (v := (-1)) hx hb d_M_behind_18 (by decide) ?_
    exact g_iret hx hb hr hlocks hR hS hf rfl d_M_behind_19
  have hf := cd_f hc hf
  refine lv_aload_n hx hb d_M_behind_8 rfl (lv_at hl 0 rfl) ?_
  refine lv_iload_n hx hb d_M_behind_9 rfl (lv_at hl 2 rfl) ?_
  refine lv_iconst (v := 0) hx hb d_M_behind_10 (by decide) ?_
  refine lv_iconst (v := 2) hx hb d_M_behind_11 (by decide) ?_
  have ⟨h8, hf⟩ := gd_e hf
  have ⟨x5, w6, h7, hf⟩ := kl_e hf
  refine g_ki0 (g_rV (As := [.int a2, .int 0, .int 2]) (rest := []) hx hb hml hown hts hK hR hS (c_M_in l D cA oc B N a0 a2 0 2 w2 h7) I_M_in m_1204 mp_27 (gRecv hK hR (ci := 12) rfl h8) rfl rfl (Nat.le_of_ble_eq_true rfl) hl.1 ⟨Nat.le_of_ble_eq_true rfl, Nat.le_of_ble_eq_true rfl⟩ ⟨Nat.le_of_ble_eq_true rfl, Nat.le_of_ble_eq_true rfl⟩ d_M_behind_12) hS (fun H locs hR hS => ?_)
  refine lv_if_ne (tgt := 20) hx hb d_M_behind_15 (by decide) (fun hc => ?_) (fun hc => ?_)
  · have hf := cd_f hc hf
    refine lv_aload_n hx hb d_M_behind_20 rfl (lv_at hl 0 rfl) ?_
    refine lv_iload_n hx hb d_M_behind_21 rfl (lv_at hl 1 rfl) ?_
    have ⟨h12, hf⟩ := gd_e hf
    have ⟨x9, w10, h11, hf⟩ := kl_e hf
    refine g_ki0 (g_rV (As := [.int a1]) (rest := []) hx hb hml hown hts hK hR hS (c_M_goesRow l D cA oc B N a0 a1 w6 h11) I_M_goesRow m_1428 mp_70 (gRecv hK hR (ci := 12) rfl h12) rfl rfl (Nat.le_of_ble_eq_true rfl) hl.1 ⟨Nat.le_of_ble_eq_true rfl, Nat.le_of_ble_eq_true rfl⟩ ⟨Nat.le_of_ble_eq_true rfl, Nat.le_of_ble_eq_true rfl⟩ d_M_behind_22) hS (fun H locs hR hS => ?_)
    refine lv_istore_n (lv' := [(3, .int x9), (0, .ref (B + a0)), (1, .int a1), (2, .int a2)]) hx hb d_M_behind_25 rfl hl (by decide) rfl (fun ls hl => ?_)
    refine lv_iload_n hx hb d_M_behind_26 rfl (lv_at hl 3 rfl) ?_
    refine lv_if_ne (tgt := 37) hx hb d_M_behind_27 (by decide) (fun hc => ?_) (fun hc => ?_)
    · have hf := cd_f hc hf
      refine lv_iload_n hx hb d_M_behind_37 rfl (lv_at hl 3 rfl) ?_
      refine lv_iconst (v := 1) hx hb d_M_behind_38 (by decide) ?_
      refine lv_icmp_ne (tgt := 49) hx hb d_M_behind_39 (by decide) (fun hc => ?_) (fun hc => ?_)
      · have hf := cd_f hc hf
        refine lv_iload_n hx hb d_M_behind_49 rfl (lv_at hl 0 rfl) ?_
        exact g_iret hx hb hr hlocks hR hS hf rfl d_M_behind_50
      have hf := cd_t hc hf
      refine lv_aload_n hx hb d_M_behind_42 rfl (lv_at hl 1 rfl) ?_
      have ⟨h13, hf⟩ := gd_e hf
      refine g_getI hx hb hts hown hK hR fl_M_129 (fun _ => rfl) h13 d_M_behind_43 ?_
      refine g_nI hf (fun x14 hf => ?_)
      refine lv_goto (tgt := 50) hx hb d_M_behind_46 (by decide) ?_
      exact g_iret hx hb hr hlocks hR hS hf rfl d_M_behind_50
    have hf := cd_t hc hf
    refine lv_aload_n hx hb d_M_behind_30 rfl (lv_at hl 1 rfl) ?_
    have ⟨h15, hf⟩ := gd_e hf
    refine g_getI hx hb hts hown hK hR fl_M_126 (fun _ => rfl) h15 d_M_behind_31 ?_
    refine g_nI hf (fun x16 hf => ?_)
    refine lv_goto (tgt := 50) hx hb d_M_behind_34 (by decide) ?_
    exact g_iret hx hb hr hlocks hR hS hf rfl d_M_behind_50
  have hf := cd_t hc hf
  refine lv_iconst (v := (-1)) hx hb d_M_behind_18 (by decide) ?_
  exact g_iret hx hb hr hlocks hR hS hf rfl d_M_behind_19
theorem c_M_behind (l : Launch) (D : va_G) (cA : Nat → ClassId) (oc : gO) (B N : Nat) (a0 : Nat) (a1 : Int32) (a2 : Int32) (w : gW) {wz : gW} {r : Int32} (hf : f_M_behind N a0 a1 a2 w = some (r, wz)) : Met l y_M_behind (Cond.code y_M_behind b_M_behind 4 (some .int) :: lw_good) ({ frames := 9, cells := 0, slots := 0, locals := 236 } : Room) (gPre D cA oc B [.ref (B + a0), .int a1, .int a2] w) (gQi D cA B r wz) 0 0 (gA B) := by
  refine Met.ofW (cc := b_M_behind) (maxL := 4) (ret := (some .int)) (by decide +kernel) rfl ?_
  intro p e s m args below meth c s₁ Bd hml hv
  obtain ⟨hargs, C, hR⟩ := gC.enter (l := l) rfl Bd hml hv
  subst hargs
  have hl := lv_entry ([.ref (B + a0), .int a1, .int a2]) (n := 4) (Nat.le_of_ble_eq_true rfl)
  rw [lg_entry_eq]
  generalize (lg_sl ([.ref (B + a0), .int a1, .int a2]) ++ List.replicate (4 - (lg_sl ([.ref (B + a0), .int a1, .int a2])).length) Slot.unset).toArray = ls at hl ⊢
  have hl : lv_has ls 4 [(0, .ref (B + a0)), (1, .int a1), (2, .int a2)] := hl
  exact c_M_behind_b0 C a0 a1 a2 w (lv_sub hl [0, 1, 2] rfl) hf hR va_S.rf
theorem d_M_who_0 : decode b_M_who 0 = .ok (.bipush (-5), 2) := by decide +kernel
theorem d_M_who_2 : decode b_M_who 2 = .ok (.istore_n 1, 1) := by decide +kernel
theorem d_M_who_3 : decode b_M_who 3 = .ok (.iconst 0, 1) := by decide +kernel
theorem d_M_who_4 : decode b_M_who 4 = .ok (.istore_n 2, 1) := by decide +kernel
theorem d_M_who_5 : decode b_M_who 5 = .ok (.iconst 0, 1) := by decide +kernel
theorem d_M_who_6 : decode b_M_who 6 = .ok (.istore_n 3, 1) := by decide +kernel
theorem d_M_who_7 : decode b_M_who 7 = .ok (.iload_n 3, 1) := by decide +kernel
theorem d_M_who_8 : decode b_M_who 8 = .ok (.aload_n 0, 1) := by decide +kernel
theorem d_M_who_9 : decode b_M_who 9 = .ok (.getfield 7, 3) := by decide +kernel
theorem d_M_who_12 : decode b_M_who 12 = .ok (.if_icmp .ge 43, 3) := by decide +kernel
theorem d_M_who_15 : decode b_M_who 15 = .ok (.aload_n 0, 1) := by decide +kernel
theorem d_M_who_16 : decode b_M_who 16 = .ok (.iload_n 3, 1) := by decide +kernel
theorem d_M_who_17 : decode b_M_who 17 = .ok (.invokevirtual 369, 3) := by decide +kernel
theorem d_M_who_20 : decode b_M_who 20 = .ok (.aload_n 0, 1) := by decide +kernel
theorem d_M_who_21 : decode b_M_who 21 = .ok (.getfield 135, 3) := by decide +kernel
theorem d_M_who_24 : decode b_M_who 24 = .ok (.if_icmp .lt 25, 3) := by decide +kernel
theorem d_M_who_27 : decode b_M_who 27 = .ok (.iload_n 1, 1) := by decide +kernel
theorem d_M_who_28 : decode b_M_who 28 = .ok (.ifCond .lt 14, 3) := by decide +kernel
theorem d_M_who_31 : decode b_M_who 31 = .ok (.aload_n 0, 1) := by decide +kernel
theorem d_M_who_32 : decode b_M_who 32 = .ok (.getfield 129, 3) := by decide +kernel
theorem d_M_who_35 : decode b_M_who 35 = .ok (.iload_n 2, 1) := by decide +kernel
theorem d_M_who_36 : decode b_M_who 36 = .ok (.if_icmp .lt 6, 3) := by decide +kernel
theorem d_M_who_39 : decode b_M_who 39 = .ok (.goto 10, 3) := by decide +kernel
theorem d_M_who_42 : decode b_M_who 42 = .ok (.iload_n 3, 1) := by decide +kernel
theorem d_M_who_43 : decode b_M_who 43 = .ok (.istore_n 1, 1) := by decide +kernel
theorem d_M_who_44 : decode b_M_who 44 = .ok (.aload_n 0, 1) := by decide +kernel
theorem d_M_who_45 : decode b_M_who 45 = .ok (.getfield 129, 3) := by decide +kernel
theorem d_M_who_48 : decode b_M_who 48 = .ok (.istore_n 2, 1) := by decide +kernel
theorem d_M_who_49 : decode b_M_who 49 = .ok (.iinc 3 1, 3) := by decide +kernel
theorem d_M_who_52 : decode b_M_who 52 = .ok (.goto (-45), 3) := by decide +kernel
theorem d_M_who_55 : decode b_M_who 55 = .ok (.iload_n 1, 1) := by decide +kernel
theorem d_M_who_56 : decode b_M_who 56 = .ok (.ireturn, 1) := by decide +kernel
set_option maxRecDepth 20000 in
theorem c_M_who_b42 {r : Int32} {wz : gW} {rec7 : Nat × Int32 × Int32 × Int32 × gW → Option (Int32 × gW)} (ih7 : ∀ (a0 : Nat) (a1 : Int32) (a2 : Int32) (a3 : Int32) (w : gW) (ls : Array Slot) (H : Heap) (locs : List Loc), rec7 (a0, a1, a2, a3, w) = some (r, wz) → lv_has ls 4 [(0, .ref (B + a0)), (1, .int a1), (2, .int a2), (3, .int a3)] → gRep D cA B w H → va_S (gA B) s.heap H locs → W p l e ({ frames := 9, cells := 0, slots := 0, locals := 236 } : Room) s m args below meth c H locs 0 0 (MQ below (gQi D cA B r wz) args s 0 0 (gA B)) (F0 m 7 ls [])) (C : gC p s m args meth c "RidCoppersModel" b_M_who 4 (some .int) D cA oc B) (a0 : Nat) (a3 : Int32) (w : gW) {ls : Array Slot} {H : Heap} {locs : List Loc} (hl : lv_has ls 4 [(0, .ref (B + a0)), (3, .int a3)]) (hf : f_M_who_b42 N rec7 a0 a3 w = some (r, wz)) (hR : gRep D cA B w H) (hS : va_S (gA B) s.heap H locs) : W p l e ({ frames := 9, cells := 0, slots := 0, locals := 236 } : Room) s m args below meth c H locs 0 0 (MQ below (gQi D cA B r wz) args s 0 0 (gA B)) (F0 m 42 ls []) := by
  obtain ⟨hx, hb, hml, hown, hts, hr, hlocks, hK, hBs⟩ := id C
  unfold f_M_who_b42 at hf
  refine lv_iload_n hx hb d_M_who_42 rfl (lv_at hl 1 rfl) ?_
  refine lv_istore_n (lv' := [(1, .int a3), (0, .ref (B + a0)), (3, .int a3)]) hx hb d_M_who_43 rfl hl (by decide) rfl (fun ls hl => ?_)
  refine lv_aload_n hx hb d_M_who_44 rfl (lv_at hl 1 rfl) ?_
  have ⟨h9, hf⟩ := gd_e hf
  refine g_getI hx hb hts hown hK hR fl_M_129 (fun _ => rfl) h9 d_M_who_45 ?_
  refine g_nI hf (fun x10 hf => ?_)
  refine lv_istore_n (lv' := [(2, .int x10), (1, .int a3), (0, .ref (B + a0)), (3, .int a3)]) hx hb d_M_who_48 rfl hl (by decide) rfl (fun ls hl => ?_)
  refine g_iinc (lv' := fun x11 => [(3, .int x11), (2, .int x10), (1, .int a3), (0, .ref (B + a0))]) hf hx hb d_M_who_49 hl (k := 3) rfl (by decide) (by decide) (fun _ => rfl) (fun x11 ls hf hl => ?_)
  refine lv_goto (tgt := 7) hx hb d_M_who_52 (by decide) ?_
  exact ih7 a0 a3 x10 x11 w _ _ _ hf (lv_sub hl [3, 2, 1, 0] rfl) hR hS
set_option maxRecDepth 20000 in
theorem c_M_who_b7 {r : Int32} {wz : gW} {rec7 : Nat × Int32 × Int32 × Int32 × gW → Option (Int32 × gW)} (ih7 : ∀ (a0 : Nat) (a1 : Int32) (a2 : Int32) (a3 : Int32) (w : gW) (ls : Array Slot) (H : Heap) (locs : List Loc), rec7 (a0, a1, a2, a3, w) = some (r, wz) → lv_has ls 4 [(0, .ref (B + a0)), (1, .int a1), (2, .int a2), (3, .int a3)] → gRep D cA B w H → va_S (gA B) s.heap H locs → W p l e ({ frames := 9, cells := 0, slots := 0, locals := 236 } : Room) s m args below meth c H locs 0 0 (MQ below (gQi D cA B r wz) args s 0 0 (gA B)) (F0 m 7 ls [])) (C : gC p s m args meth c "RidCoppersModel" b_M_who 4 (some .int) D cA oc B) (a0 : Nat) (a1 : Int32) (a2 : Int32) (a3 : Int32) (w : gW) {ls : Array Slot} {H : Heap} {locs : List Loc} (hl : lv_has ls 4 [(0, .ref (B + a0)), (1, .int a1), (2, .int a2), (3, .int a3)]) (hf : f_M_who_b7 N rec7 a0 a1 a2 a3 w = some (r, wz)) (hR : gRep D cA B w H) (hS : va_S (gA B) s.heap H locs) : W p l e ({ frames := 9, cells := 0, slots := 0, locals := 236 } : Room) s m args below meth c H locs 0 0 (MQ below (gQi D cA B r wz) args s 0 0 (gA B)) (F0 m 7 ls []) := by
  obtain ⟨hx, hb, hml, hown, hts, hr, hlocks, hK, hBs⟩ := id C
  unfold f_M_who_b7 at hf
  refine lv_iload_n hx hb d_M_who_7 rfl (lv_at hl 3 rfl) ?_
  refine lv_aload_n hx hb d_M_who_8 rfl (lv_at hl 0 rfl) ?_
  have ⟨h1, hf⟩ := gd_e hf
  refine g_getI hx hb hts hown hK hR fl_M_7 (fun _ => rfl) h1 d_M_who_9 ?_
  refine g_nI hf (fun x2 hf => ?_)
  refine lv_icmp_ge (tgt := 55) hx hb d_M_who_12 (by decide) (fun hc => ?_) (fun hc => ?_)
  · have hf := cd_t hc hf
    refine lv_iload_n hx hb d_M_who_55 rfl (lv_at hl 1 rfl) ?_
    exact g_iret hx hb hr hlocks hR hS hf rfl d_M_who_56
  have hf := cd_f hc hf
  refine lv_aload_n hx hb d_M_who_15 rfl (lv_at hl 0 rfl) ?_
  refine lv_iload_n hx hb d_M_who_16 rfl (lv_at hl 3 rfl) ?_
  have ⟨x3, w4, h5, hf⟩ := kl_e hf
  refine g_ki0 (g_rV (As := [.int a3]) (rest := []) hx hb hml hown hts hK hR hS (c_M_goesRow l D cA oc B N a0 a3 w h5) I_M_goesRow m_1428 mp_70 (gRecv hK hR (ci := 12) rfl h1) rfl rfl (Nat.le_of_ble_eq_true rfl) hl.1 ⟨Nat.le_of_ble_eq_true rfl, Nat.le_of_ble_eq_true rfl⟩ ⟨Nat.le_of_ble_eq_true rfl, Nat.le_of_ble_eq_true rfl⟩ d_M_who_17) hS (fun H locs hR hS => ?_)
  refine lv_aload_n hx hb d_M_who_20 rfl (lv_at hl 0 rfl) ?_
  have ⟨h6, hf⟩ := gd_e hf
  refine g_getI hx hb hts hown hK hR fl_M_135 (fun _ => rfl) h6 d_M_who_21 ?_
  refine g_nI hf (fun x7 hf => ?_)
  refine lv_icmp_lt (tgt := 49) hx hb d_M_who_24 (by decide) (fun hc => ?_) (fun hc => ?_)
  · have hf := cd_t hc hf
    refine g_iinc (lv' := fun x8 => [(3, .int x8), (0, .ref (B + a0)), (1, .int a1), (2, .int a2)]) hf hx hb d_M_who_49 hl (k := 3) rfl (by decide) (by decide) (fun _ => rfl) (fun x8 ls hf hl => ?_)
    refine lv_goto (tgt := 7) hx hb d_M_who_52 (by decide) ?_
    exact ih7 a0 a1 a2 x8 w4 _ _ _ hf (lv_sub hl [1, 2, 3, 0] rfl) hR hS
  have hf := cd_f hc hf
  refine lv_iload_n hx hb d_M_who_27 rfl (lv_at hl 1 rfl) ?_
  refine lv_if_lt (tgt := 42) hx hb d_M_who_28 (by decide) (fun hc => ?_) (fun hc => ?_)
  · have hf := cd_t hc hf
    exact c_M_who_b42 ih7 C a0 a3 w4 (lv_sub hl [0, 3] rfl) hf hR hS
  have hf := cd_f hc hf
  refine lv_aload_n hx hb d_M_who_31 rfl (lv_at hl 0 rfl) ?_
  refine g_getI hx hb hts hown hK hR fl_M_129 (fun _ => rfl) h6 d_M_who_32 ?_
  refine g_nI hf (fun x12 hf => ?_)
  refine lv_iload_n hx hb d_M_who_35 rfl (lv_at hl 2 rfl) ?_
  refine lv_icmp_lt (tgt := 42) hx hb d_M_who_36 (by decide) (fun hc => ?_) (fun hc => ?_)
  · have hf := cd_t hc hf
    exact c_M_who_b42 ih7 C a0 a3 w4 (lv_sub hl [0, 3] rfl) hf hR hS
  have hf := cd_f hc hf
  refine lv_goto (tgt := 49) hx hb d_M_who_39 (by decide) ?_
  refine g_iinc (lv' := fun x13 => [(3, .int x13), (0, .ref (B + a0)), (1, .int a1), (2, .int a2)]) hf hx hb d_M_who_49 hl (k := 3) rfl (by decide) (by decide) (fun _ => rfl) (fun x13 ls hf hl => ?_)
  refine lv_goto (tgt := 7) hx hb d_M_who_52 (by decide) ?_
  exact ih7 a0 a1 a2 x13 w4 _ _ _ hf (lv_sub hl [1, 2, 3, 0] rfl) hR hS
theorem c_M_who_l7 {r : Int32} {wz : gW} (C : gC p s m args meth c "RidCoppersModel" b_M_who 4 (some .int) D cA oc B) (a0 : Nat) (a1 : Int32) (a2 : Int32) (a3 : Int32) (w : gW) {ls : Array Slot} {H : Heap} {locs : List Loc} (hl : lv_has ls 4 [(0, .ref (B + a0)), (1, .int a1), (2, .int a2), (3, .int a3)]) (hf : f_M_who_l7 N a0 a1 a2 a3 w = some (r, wz)) (hR : gRep D cA B w H) (hS : va_S (gA B) s.heap H locs) : W p l e ({ frames := 9, cells := 0, slots := 0, locals := 236 } : Room) s m args below meth c H locs 0 0 (MQ below (gQi D cA B r wz) args s 0 0 (gA B)) (F0 m 7 ls []) := by
  unfold f_M_who_l7 at hf
  suffices hh : ∀ n : Nat, ∀ (a0 : Nat) (a1 : Int32) (a2 : Int32) (a3 : Int32) (w : gW) (ls : Array Slot) (H : Heap) (locs : List Loc), itr (fun rec (q : Nat × Int32 × Int32 × Int32 × gW) => f_M_who_b7 N rec q.1 q.2.1 q.2.2.1 q.2.2.2.1 q.2.2.2.2) n (a0, a1, a2, a3, w) = some (r, wz) → lv_has ls 4 [(0, .ref (B + a0)), (1, .int a1), (2, .int a2), (3, .int a3)] → gRep D cA B w H → va_S (gA B) s.heap H locs → W p l e ({ frames := 9, cells := 0, slots := 0, locals := 236 } : Room) s m args below meth c H locs 0 0 (MQ below (gQi D cA B r wz) args s 0 0 (gA B)) (F0 m 7 ls []) from hh N a0 a1 a2 a3 w ls H locs hf hl hR hS
  intro n
  induction n with
  | zero => intro a0 a1 a2 a3 w ls H locs hf; cases hf
  | succ n ihn =>
    intro a0 a1 a2 a3 w ls H locs hf hl hR hS
    exact c_M_who_b7 (N := N) ihn C a0 a1 a2 a3 w hl ((itr_s _ _ _).symm.trans hf) hR hS
set_option maxRecDepth 20000 in
theorem c_M_who_b0 {r : Int32} {wz : gW} (C : gC p s m args meth c "RidCoppersModel" b_M_who 4 (some .int) D cA oc B) (a0 : Nat) (w : gW) {ls : Array Slot} {H : Heap} {locs : List Loc} (hl : lv_has ls 4 [(0, .ref (B + a0))]) (hf : f_M_who_b0 N a0 w = some (r, wz)) (hR : gRep D cA B w H) (hS : va_S (gA B) s.heap H locs) : W p l e ({ frames := 9, cells := 0, slots := 0, locals := 236 } : Room) s m args below meth c H locs 0 0 (MQ below (gQi D cA B r wz) args s 0 0 (gA B)) (F0 m 0 ls []) := by
  obtain ⟨hx, hb, hml, hown, hts, hr, hlocks, hK, hBs⟩ := id C
  unfold f_M_who_b0 at hf
  refine lv_bipush (v := (-5)) hx hb d_M_who_0 (by decide) ?_
  refine lv_istore_n (lv' := [(1, .int (-5)), (0, .ref (B + a0))]) hx hb d_M_who_2 rfl hl (by decide) rfl (fun ls hl => ?_)
  refine lv_iconst (v := 0) hx hb d_M_who_3 (by decide) ?_
  refine lv_istore_n (lv' := [(2, .int 0), (1, .int (-5)), (0, .ref (B + a0))]) hx hb d_M_who_4 rfl hl (by decide) rfl (fun ls hl => ?_)
  refine lv_iconst (v := 0) hx hb d_M_who_5 (by decide) ?_
  refine lv_istore_n (lv' := [(3, .int 0), (2, .int 0), (1, .int (-5)), (0, .ref (B + a0))]) hx hb d_M_who_6 rfl hl (by decide) rfl (fun ls hl => ?_)
  exact c_M_who_l7 C a0 (-5) 0 0 w (lv_sub hl [3, 2, 1, 0] rfl) hf hR hS
theorem c_M_who (l : Launch) (D : va_G) (cA : Nat → ClassId) (oc : gO) (B N : Nat) (a0 : Nat) (w : gW) {wz : gW} {r : Int32} (hf : f_M_who N a0 w = some (r, wz)) : Met l y_M_who (Cond.code y_M_who b_M_who 4 (some .int) :: lw_good) ({ frames := 9, cells := 0, slots := 0, locals := 236 } : Room) (gPre D cA oc B [.ref (B + a0)] w) (gQi D cA B r wz) 0 0 (gA B) := by
  refine Met.ofW (cc := b_M_who) (maxL := 4) (ret := (some .int)) (by decide +kernel) rfl ?_
  intro p e s m args below meth c s₁ Bd hml hv
  obtain ⟨hargs, C, hR⟩ := gC.enter (l := l) rfl Bd hml hv
  subst hargs
  have hl := lv_entry ([.ref (B + a0)]) (n := 4) (Nat.le_of_ble_eq_true rfl)
  rw [lg_entry_eq]
  generalize (lg_sl ([.ref (B + a0)]) ++ List.replicate (4 - (lg_sl ([.ref (B + a0)])).length) Slot.unset).toArray = ls at hl ⊢
  have hl : lv_has ls 4 [(0, .ref (B + a0))] := hl
  exact c_M_who_b0 C a0 w (lv_sub hl [0] rfl) hf hR va_S.rf
theorem d_M_next_0 : decode b_M_next 0 = .ok (.aload_n 0, 1) := by decide +kernel
theorem d_M_next_1 : decode b_M_next 1 = .ok (.iload_n 1, 1) := by decide +kernel
theorem d_M_next_2 : decode b_M_next 2 = .ok (.invokevirtual 234, 3) := by decide +kernel
theorem d_M_next_5 : decode b_M_next 5 = .ok (.ifCond .ne 5, 3) := by decide +kernel
theorem d_M_next_8 : decode b_M_next 8 = .ok (.iconst (-1), 1) := by decide +kernel
theorem d_M_next_9 : decode b_M_next 9 = .ok (.ireturn, 1) := by decide +kernel
theorem d_M_next_10 : decode b_M_next 10 = .ok (.bipush (-5), 2) := by decide +kernel
theorem d_M_next_12 : decode b_M_next 12 = .ok (.istore_n 2, 1) := by decide +kernel
theorem d_M_next_13 : decode b_M_next 13 = .ok (.iconst 0, 1) := by decide +kernel
theorem d_M_next_14 : decode b_M_next 14 = .ok (.istore_n 3, 1) := by decide +kernel
theorem d_M_next_15 : decode b_M_next 15 = .ok (.iconst 1, 1) := by decide +kernel
theorem d_M_next_16 : decode b_M_next 16 = .ok (.istore 4, 2) := by decide +kernel
theorem d_M_next_18 : decode b_M_next 18 = .ok (.iload 4, 2) := by decide +kernel
theorem d_M_next_20 : decode b_M_next 20 = .ok (.bipush 31, 2) := by decide +kernel
theorem d_M_next_22 : decode b_M_next 22 = .ok (.if_icmp .ge 42, 3) := by decide +kernel
theorem d_M_next_25 : decode b_M_next 25 = .ok (.aload_n 0, 1) := by decide +kernel
theorem d_M_next_26 : decode b_M_next 26 = .ok (.iload_n 1, 1) := by decide +kernel
theorem d_M_next_27 : decode b_M_next 27 = .ok (.iload 4, 2) := by decide +kernel
theorem d_M_next_29 : decode b_M_next 29 = .ok (.invokevirtual 363, 3) := by decide +kernel
theorem d_M_next_32 : decode b_M_next 32 = .ok (.ifCond .eq 26, 3) := by decide +kernel
theorem d_M_next_35 : decode b_M_next 35 = .ok (.iload_n 2, 1) := by decide +kernel
theorem d_M_next_36 : decode b_M_next 36 = .ok (.ifCond .lt 14, 3) := by decide +kernel
theorem d_M_next_39 : decode b_M_next 39 = .ok (.aload_n 0, 1) := by decide +kernel
theorem d_M_next_40 : decode b_M_next 40 = .ok (.getfield 129, 3) := by decide +kernel
theorem d_M_next_43 : decode b_M_next 43 = .ok (.iload_n 3, 1) := by decide +kernel
theorem d_M_next_44 : decode b_M_next 44 = .ok (.if_icmp .lt 6, 3) := by decide +kernel
theorem d_M_next_47 : decode b_M_next 47 = .ok (.goto 11, 3) := by decide +kernel
theorem d_M_next_50 : decode b_M_next 50 = .ok (.iload 4, 2) := by decide +kernel
theorem d_M_next_52 : decode b_M_next 52 = .ok (.istore_n 2, 1) := by decide +kernel
theorem d_M_next_53 : decode b_M_next 53 = .ok (.aload_n 0, 1) := by decide +kernel
theorem d_M_next_54 : decode b_M_next 54 = .ok (.getfield 129, 3) := by decide +kernel
theorem d_M_next_57 : decode b_M_next 57 = .ok (.istore_n 3, 1) := by decide +kernel
theorem d_M_next_58 : decode b_M_next 58 = .ok (.iinc 4 1, 3) := by decide +kernel
theorem d_M_next_61 : decode b_M_next 61 = .ok (.goto (-43), 3) := by decide +kernel
theorem d_M_next_64 : decode b_M_next 64 = .ok (.iload_n 2, 1) := by decide +kernel
theorem d_M_next_65 : decode b_M_next 65 = .ok (.ireturn, 1) := by decide +kernel
set_option maxRecDepth 20000 in
theorem c_M_next_b50 {r : Int32} {wz : gW} {rec18 : Nat × Int32 × Int32 × Int32 × Int32 × gW → Option (Int32 × gW)} (ih18 : ∀ (a0 : Nat) (a1 : Int32) (a2 : Int32) (a3 : Int32) (a4 : Int32) (w : gW) (ls : Array Slot) (H : Heap) (locs : List Loc), rec18 (a0, a1, a2, a3, a4, w) = some (r, wz) → lv_has ls 5 [(0, .ref (B + a0)), (1, .int a1), (2, .int a2), (3, .int a3), (4, .int a4)] → gRep D cA B w H → va_S (gA B) s.heap H locs → W p l e ({ frames := 9, cells := 0, slots := 0, locals := 236 } : Room) s m args below meth c H locs 0 0 (MQ below (gQi D cA B r wz) args s 0 0 (gA B)) (F0 m 18 ls [])) (C : gC p s m args meth c "RidCoppersModel" b_M_next 5 (some .int) D cA oc B) (a0 : Nat) (a1 : Int32) (a4 : Int32) (w : gW) {ls : Array Slot} {H : Heap} {locs : List Loc} (hl : lv_has ls 5 [(0, .ref (B + a0)), (1, .int a1), (4, .int a4)]) (hf : f_M_next_b50 N rec18 a0 a1 a4 w = some (r, wz)) (hR : gRep D cA B w H) (hS : va_S (gA B) s.heap H locs) : W p l e ({ frames := 9, cells := 0, slots := 0, locals := 236 } : Room) s m args below meth c H locs 0 0 (MQ below (gQi D cA B r wz) args s 0 0 (gA B)) (F0 m 50 ls []) := by
  obtain ⟨hx, hb, hml, hown, hts, hr, hlocks, hK, hBs⟩ := id C
  unfold f_M_next_b50 at hf
  refine lv_iload hx hb d_M_next_50 (lv_at hl 2 rfl) ?_
  refine lv_istore_n (lv' := [(2, .int a4), (0, .ref (B + a0)), (1, .int a1), (4, .int a4)]) hx hb d_M_next_52 rfl hl (by decide) rfl (fun ls hl => ?_)
  refine lv_aload_n hx hb d_M_next_53 rfl (lv_at hl 1 rfl) ?_
  have ⟨h10, hf⟩ := gd_e hf
  refine g_getI hx hb hts hown hK hR fl_M_129 (fun _ => rfl) h10 d_M_next_54 ?_
  refine g_nI hf (fun x11 hf => ?_)
  refine lv_istore_n (lv' := [(3, .int x11), (2, .int a4), (0, .ref (B + a0)), (1, .int a1), (4, .int a4)]) hx hb d_M_next_57 rfl hl (by decide) rfl (fun ls hl => ?_)
  refine g_iinc (lv' := fun x12 => [(4, .int x12), (3, .int x11), (2, .int a4), (0, .ref (B + a0)), (1, .int a1)]) hf hx hb d_M_next_58 hl (k := 4) rfl (by decide) (by decide) (fun _ => rfl) (fun x12 ls hf hl => ?_)
  refine lv_goto (tgt := 18) hx hb d_M_next_61 (by decide) ?_
  exact ih18 a0 a1 a4 x11 x12 w _ _ _ hf (lv_sub hl [3, 4, 2, 1, 0] rfl) hR hS
set_option maxRecDepth 20000 in
theorem c_M_next_b18 {r : Int32} {wz : gW} {rec18 : Nat × Int32 × Int32 × Int32 × Int32 × gW → Option (Int32 × gW)} (ih18 : ∀ (a0 : Nat) (a1 : Int32) (a2 : Int32) (a3 : Int32) (a4 : Int32) (w : gW) (ls : Array Slot) (H : Heap) (locs : List Loc), rec18 (a0, a1, a2, a3, a4, w) = some (r, wz) → lv_has ls 5 [(0, .ref (B + a0)), (1, .int a1), (2, .int a2), (3, .int a3), (4, .int a4)] → gRep D cA B w H → va_S (gA B) s.heap H locs → W p l e ({ frames := 9, cells := 0, slots := 0, locals := 236 } : Room) s m args below meth c H locs 0 0 (MQ below (gQi D cA B r wz) args s 0 0 (gA B)) (F0 m 18 ls [])) (C : gC p s m args meth c "RidCoppersModel" b_M_next 5 (some .int) D cA oc B) (a0 : Nat) (a1 : Int32) (a2 : Int32) (a3 : Int32) (a4 : Int32) (w : gW) {ls : Array Slot} {H : Heap} {locs : List Loc} (hl : lv_has ls 5 [(0, .ref (B + a0)), (1, .int a1), (2, .int a2), (3, .int a3), (4, .int a4)]) (hf : f_M_next_b18 N rec18 a0 a1 a2 a3 a4 w = some (r, wz)) (hR : gRep D cA B w H) (hS : va_S (gA B) s.heap H locs) : W p l e ({ frames := 9, cells := 0, slots := 0, locals := 236 } : Room) s m args below meth c H locs 0 0 (MQ below (gQi D cA B r wz) args s 0 0 (gA B)) (F0 m 18 ls []) := by
  obtain ⟨hx, hb, hml, hown, hts, hr, hlocks, hK, hBs⟩ := id C
  unfold f_M_next_b18 at hf
  refine lv_iload hx hb d_M_next_18 (lv_at hl 4 rfl) ?_
  refine lv_bipush (v := 31) hx hb d_M_next_20 (by decide) ?_
  refine lv_icmp_ge (tgt := 64) hx hb d_M_next_22 (by decide) (fun hc => ?_) (fun hc => ?_)
  · have hf := cd_t hc hf
    refine lv_iload_n hx hb d_M_next_64 rfl (lv_at hl 2 rfl) ?_
    exact g_iret hx hb hr hlocks hR hS hf rfl d_M_next_65
  have hf := cd_f hc hf
  refine lv_aload_n hx hb d_M_next_25 rfl (lv_at hl 0 rfl) ?_
  refine lv_iload_n hx hb d_M_next_26 rfl (lv_at hl 1 rfl) ?_
  refine lv_iload hx hb d_M_next_27 (lv_at hl 4 rfl) ?_
  have ⟨h8, hf⟩ := gd_e hf
  have ⟨x5, w6, h7, hf⟩ := kl_e hf
  refine g_ki0 (g_rV (As := [.int a1, .int a4]) (rest := []) hx hb hml hown hts hK hR hS (c_M_could l D cA oc B N a0 a1 a4 w h7) I_M_could m_1396 mp_66 (gRecv hK hR (ci := 12) rfl h8) rfl rfl (Nat.le_of_ble_eq_true rfl) hl.1 ⟨Nat.le_of_ble_eq_true rfl, Nat.le_of_ble_eq_true rfl⟩ ⟨Nat.le_of_ble_eq_true rfl, Nat.le_of_ble_eq_true rfl⟩ d_M_next_29) hS (fun H locs hR hS => ?_)
  refine lv_if_eq (tgt := 58) hx hb d_M_next_32 (by decide) (fun hc => ?_) (fun hc => ?_)
  · have hf := cd_t hc hf
    refine g_iinc (lv' := fun x9 => [(4, .int x9), (0, .ref (B + a0)), (1, .int a1), (2, .int a2), (3, .int a3)]) hf hx hb d_M_next_58 hl (k := 4) rfl (by decide) (by decide) (fun _ => rfl) (fun x9 ls hf hl => ?_)
    refine lv_goto (tgt := 18) hx hb d_M_next_61 (by decide) ?_
    exact ih18 a0 a1 a2 a3 x9 w6 _ _ _ hf (lv_sub hl [1, 2, 3, 4, 0] rfl) hR hS
  have hf := cd_f hc hf
  refine lv_iload_n hx hb d_M_next_35 rfl (lv_at hl 2 rfl) ?_
  refine lv_if_lt (tgt := 50) hx hb d_M_next_36 (by decide) (fun hc => ?_) (fun hc => ?_)
  · have hf := cd_t hc hf
    exact c_M_next_b50 ih18 C a0 a1 a4 w6 (lv_sub hl [0, 1, 4] rfl) hf hR hS
  have hf := cd_f hc hf
  refine lv_aload_n hx hb d_M_next_39 rfl (lv_at hl 0 rfl) ?_
  have ⟨h13, hf⟩ := gd_e hf
  refine g_getI hx hb hts hown hK hR fl_M_129 (fun _ => rfl) h13 d_M_next_40 ?_
  refine g_nI hf (fun x14 hf => ?_)
  refine lv_iload_n hx hb d_M_next_43 rfl (lv_at hl 3 rfl) ?_
  refine lv_icmp_lt (tgt := 50) hx hb d_M_next_44 (by decide) (fun hc => ?_) (fun hc => ?_)
  · have hf := cd_t hc hf
    exact c_M_next_b50 ih18 C a0 a1 a4 w6 (lv_sub hl [0, 1, 4] rfl) hf hR hS
  have hf := cd_f hc hf
  refine lv_goto (tgt := 58) hx hb d_M_next_47 (by decide) ?_
  refine g_iinc (lv' := fun x15 => [(4, .int x15), (0, .ref (B + a0)), (1, .int a1), (2, .int a2), (3, .int a3)]) hf hx hb d_M_next_58 hl (k := 4) rfl (by decide) (by decide) (fun _ => rfl) (fun x15 ls hf hl => ?_)
  refine lv_goto (tgt := 18) hx hb d_M_next_61 (by decide) ?_
  exact ih18 a0 a1 a2 a3 x15 w6 _ _ _ hf (lv_sub hl [1, 2, 3, 4, 0] rfl) hR hS
theorem c_M_next_l18 {r : Int32} {wz : gW} (C : gC p s m args meth c "RidCoppersModel" b_M_next 5 (some .int) D cA oc B) (a0 : Nat) (a1 : Int32) (a2 : Int32) (a3 : Int32) (a4 : Int32) (w : gW) {ls : Array Slot} {H : Heap} {locs : List Loc} (hl : lv_has ls 5 [(0, .ref (B + a0)), (1, .int a1), (2, .int a2), (3, .int a3), (4, .int a4)]) (hf : f_M_next_l18 N a0 a1 a2 a3 a4 w = some (r, wz)) (hR : gRep D cA B w H) (hS : va_S (gA B) s.heap H locs) : W p l e ({ frames := 9, cells := 0, slots := 0, locals := 236 } : Room) s m args below meth c H locs 0 0 (MQ below (gQi D cA B r wz) args s 0 0 (gA B)) (F0 m 18 ls []) := by
  unfold f_M_next_l18 at hf
  suffices hh : ∀ n : Nat, ∀ (a0 : Nat) (a1 : Int32) (a2 : Int32) (a3 : Int32) (a4 : Int32) (w : gW) (ls : Array Slot) (H : Heap) (locs : List Loc), itr (fun rec (q : Nat × Int32 × Int32 × Int32 × Int32 × gW) => f_M_next_b18 N rec q.1 q.2.1 q.2.2.1 q.2.2.2.1 q.2.2.2.2.1 q.2.2.2.2.2) n (a0, a1, a2, a3, a4, w) = some (r, wz) → lv_has ls 5 [(0, .ref (B + a0)), (1, .int a1), (2, .int a2), (3, .int a3), (4, .int a4)] → gRep D cA B w H → va_S (gA B) s.heap H locs → W p l e ({ frames := 9, cells := 0, slots := 0, locals := 236 } : Room) s m args below meth c H locs 0 0 (MQ below (gQi D cA B r wz) args s 0 0 (gA B)) (F0 m 18 ls []) from hh N a0 a1 a2 a3 a4 w ls H locs hf hl hR hS
  intro n
  induction n with
  | zero => intro a0 a1 a2 a3 a4 w ls H locs hf; cases hf
  | succ n ihn =>
    intro a0 a1 a2 a3 a4 w ls H locs hf hl hR hS
    exact c_M_next_b18 (N := N) ihn C a0 a1 a2 a3 a4 w hl ((itr_s _ _ _).symm.trans hf) hR hS
set_option maxRecDepth 20000 in
theorem c_M_next_b0 {r : Int32} {wz : gW} (C : gC p s m args meth c "RidCoppersModel" b_M_next 5 (some .int) D cA oc B) (a0 : Nat) (a1 : Int32) (w : gW) {ls : Array Slot} {H : Heap} {locs : List Loc} (hl : lv_has ls 5 [(0, .ref (B + a0)), (1, .int a1)]) (hf : f_M_next_b0 N a0 a1 w = some (r, wz)) (hR : gRep D cA B w H) (hS : va_S (gA B) s.heap H locs) : W p l e ({ frames := 9, cells := 0, slots := 0, locals := 236 } : Room) s m args below meth c H locs 0 0 (MQ below (gQi D cA B r wz) args s 0 0 (gA B)) (F0 m 0 ls []) := by
  obtain ⟨hx, hb, hml, hown, hts, hr, hlocks, hK, hBs⟩ := id C
  unfold f_M_next_b0 at hf
  refine lv_aload_n hx hb d_M_next_0 rfl (lv_at hl 0 rfl) ?_
  refine lv_iload_n hx hb d_M_next_1 rfl (lv_at hl 1 rfl) ?_
  have ⟨h4, hf⟩ := gd_e hf
  have ⟨x1, w2, h3, hf⟩ := kl_e hf
  refine g_ki0 (g_rV (As := [.int a1]) (rest := []) hx hb hml hown hts hK hR hS (c_M_isPayer l D cA oc B N a0 a1 w h3) I_M_isPayer m_1212 mp_28 (gRecv hK hR (ci := 12) rfl h4) rfl rfl (Nat.le_of_ble_eq_true rfl) hl.1 ⟨Nat.le_of_ble_eq_true rfl, Nat.le_of_ble_eq_true rfl⟩ ⟨Nat.le_of_ble_eq_true rfl, Nat.le_of_ble_eq_true rfl⟩ d_M_next_2) hS (fun H locs hR hS => ?_)
  refine lv_if_ne (tgt := 10) hx hb d_M_next_5 (by decide) (fun hc => ?_) (fun hc => ?_)
  · have hf := cd_f hc hf
    refine lv_bipush (v := (-5)) hx hb d_M_next_10 (by decide) ?_
    refine lv_istore_n (lv' := [(2, .int (-5)), (0, .ref (B + a0)), (1, .int a1)]) hx hb d_M_next_12 rfl hl (by decide) rfl (fun ls hl => ?_)
    refine lv_iconst (v := 0) hx hb d_M_next_13 (by decide) ?_
    refine lv_istore_n (lv' := [(3, .int 0), (2, .int (-5)), (0, .ref (B + a0)), (1, .int a1)]) hx hb d_M_next_14 rfl hl (by decide) rfl (fun ls hl => ?_)
    refine lv_iconst (v := 1) hx hb d_M_next_15 (by decide) ?_
    refine lv_istore (lv' := [(4, .int 1), (3, .int 0), (2, .int (-5)), (0, .ref (B + a0)), (1, .int a1)]) hx hb d_M_next_16 hl (by decide) rfl (fun ls hl => ?_)
    exact c_M_next_l18 C a0 a1 (-5) 0 1 w2 (lv_sub hl [3, 4, 2, 1, 0] rfl) hf hR hS
  have hf := cd_t hc hf
  refine lv_iconst (v := (-1)) hx hb d_M_next_8 (by decide) ?_
  exact g_iret hx hb hr hlocks hR hS hf rfl d_M_next_9
theorem c_M_next (l : Launch) (D : va_G) (cA : Nat → ClassId) (oc : gO) (B N : Nat) (a0 : Nat) (a1 : Int32) (w : gW) {wz : gW} {r : Int32} (hf : f_M_next N a0 a1 w = some (r, wz)) : Met l y_M_next (Cond.code y_M_next b_M_next 5 (some .int) :: lw_good) ({ frames := 9, cells := 0, slots := 0, locals := 236 } : Room) (gPre D cA oc B [.ref (B + a0), .int a1] w) (gQi D cA B r wz) 0 0 (gA B) := by
  refine Met.ofW (cc := b_M_next) (maxL := 5) (ret := (some .int)) (by decide +kernel) rfl ?_
  intro p e s m args below meth c s₁ Bd hml hv
  obtain ⟨hargs, C, hR⟩ := gC.enter (l := l) rfl Bd hml hv
  subst hargs
  have hl := lv_entry ([.ref (B + a0), .int a1]) (n := 5) (Nat.le_of_ble_eq_true rfl)
  rw [lg_entry_eq]
  generalize (lg_sl ([.ref (B + a0), .int a1]) ++ List.replicate (5 - (lg_sl ([.ref (B + a0), .int a1])).length) Slot.unset).toArray = ls at hl ⊢
  have hl : lv_has ls 5 [(0, .ref (B + a0)), (1, .int a1)] := hl
  exact c_M_next_b0 C a0 a1 w (lv_sub hl [0, 1] rfl) hf hR va_S.rf
theorem d_M_shortOf_0 : decode b_M_shortOf 0 = .ok (.aload_n 0, 1) := by decide +kernel
theorem d_M_shortOf_1 : decode b_M_shortOf 1 = .ok (.iload_n 1, 1) := by decide +kernel
theorem d_M_shortOf_2 : decode b_M_shortOf 2 = .ok (.invokevirtual 234, 3) := by decide +kernel
theorem d_M_shortOf_5 : decode b_M_shortOf 5 = .ok (.ifCond .ne 5, 3) := by decide +kernel
theorem d_M_shortOf_8 : decode b_M_shortOf 8 = .ok (.iconst (-1), 1) := by decide +kernel
theorem d_M_shortOf_9 : decode b_M_shortOf 9 = .ok (.ireturn, 1) := by decide +kernel
theorem d_M_shortOf_10 : decode b_M_shortOf 10 = .ok (.iconst 0, 1) := by decide +kernel
theorem d_M_shortOf_11 : decode b_M_shortOf 11 = .ok (.istore_n 2, 1) := by decide +kernel
theorem d_M_shortOf_12 : decode b_M_shortOf 12 = .ok (.iconst 0, 1) := by decide +kernel
theorem d_M_shortOf_13 : decode b_M_shortOf 13 = .ok (.istore_n 3, 1) := by decide +kernel
theorem d_M_shortOf_14 : decode b_M_shortOf 14 = .ok (.iload_n 3, 1) := by decide +kernel
theorem d_M_shortOf_15 : decode b_M_shortOf 15 = .ok (.bipush 6, 2) := by decide +kernel
theorem d_M_shortOf_17 : decode b_M_shortOf 17 = .ok (.if_icmp .ge 30, 3) := by decide +kernel
theorem d_M_shortOf_20 : decode b_M_shortOf 20 = .ok (.iload_n 2, 1) := by decide +kernel
theorem d_M_shortOf_21 : decode b_M_shortOf 21 = .ok (.aload_n 0, 1) := by decide +kernel
theorem d_M_shortOf_22 : decode b_M_shortOf 22 = .ok (.getfield 29, 3) := by decide +kernel
theorem d_M_shortOf_25 : decode b_M_shortOf 25 = .ok (.bipush 6, 2) := by decide +kernel
theorem d_M_shortOf_27 : decode b_M_shortOf 27 = .ok (.iload_n 1, 1) := by decide +kernel
theorem d_M_shortOf_28 : decode b_M_shortOf 28 = .ok (.imul, 1) := by decide +kernel
theorem d_M_shortOf_29 : decode b_M_shortOf 29 = .ok (.iload_n 3, 1) := by decide +kernel
theorem d_M_shortOf_30 : decode b_M_shortOf 30 = .ok (.iadd, 1) := by decide +kernel
theorem d_M_shortOf_31 : decode b_M_shortOf 31 = .ok (.iaload, 1) := by decide +kernel
theorem d_M_shortOf_32 : decode b_M_shortOf 32 = .ok (.aload_n 0, 1) := by decide +kernel
theorem d_M_shortOf_33 : decode b_M_shortOf 33 = .ok (.getfield 13, 3) := by decide +kernel
theorem d_M_shortOf_36 : decode b_M_shortOf 36 = .ok (.iload_n 3, 1) := by decide +kernel
theorem d_M_shortOf_37 : decode b_M_shortOf 37 = .ok (.iaload, 1) := by decide +kernel
theorem d_M_shortOf_38 : decode b_M_shortOf 38 = .ok (.imul, 1) := by decide +kernel
theorem d_M_shortOf_39 : decode b_M_shortOf 39 = .ok (.iadd, 1) := by decide +kernel
theorem d_M_shortOf_40 : decode b_M_shortOf 40 = .ok (.istore_n 2, 1) := by decide +kernel
theorem d_M_shortOf_41 : decode b_M_shortOf 41 = .ok (.iinc 3 1, 3) := by decide +kernel
theorem d_M_shortOf_44 : decode b_M_shortOf 44 = .ok (.goto (-30), 3) := by decide +kernel
theorem d_M_shortOf_47 : decode b_M_shortOf 47 = .ok (.iconst 1, 1) := by decide +kernel
theorem d_M_shortOf_48 : decode b_M_shortOf 48 = .ok (.istore_n 3, 1) := by decide +kernel
theorem d_M_shortOf_49 : decode b_M_shortOf 49 = .ok (.iload_n 3, 1) := by decide +kernel
theorem d_M_shortOf_50 : decode b_M_shortOf 50 = .ok (.bipush 61, 2) := by decide +kernel
theorem d_M_shortOf_52 : decode b_M_shortOf 52 = .ok (.if_icmp .ge 25, 3) := by decide +kernel
theorem d_M_shortOf_55 : decode b_M_shortOf 55 = .ok (.iload_n 3, 1) := by decide +kernel
theorem d_M_shortOf_56 : decode b_M_shortOf 56 = .ok (.iload_n 2, 1) := by decide +kernel
theorem d_M_shortOf_57 : decode b_M_shortOf 57 = .ok (.if_icmp .gt 20, 3) := by decide +kernel
theorem d_M_shortOf_60 : decode b_M_shortOf 60 = .ok (.aload_n 0, 1) := by decide +kernel
theorem d_M_shortOf_61 : decode b_M_shortOf 61 = .ok (.iload_n 1, 1) := by decide +kernel
theorem d_M_shortOf_62 : decode b_M_shortOf 62 = .ok (.iload_n 3, 1) := by decide +kernel
theorem d_M_shortOf_63 : decode b_M_shortOf 63 = .ok (.invokevirtual 345, 3) := by decide +kernel
theorem d_M_shortOf_66 : decode b_M_shortOf 66 = .ok (.ifCond .ne 5, 3) := by decide +kernel
theorem d_M_shortOf_69 : decode b_M_shortOf 69 = .ok (.iload_n 3, 1) := by decide +kernel
theorem d_M_shortOf_70 : decode b_M_shortOf 70 = .ok (.ireturn, 1) := by decide +kernel
theorem d_M_shortOf_71 : decode b_M_shortOf 71 = .ok (.iinc 3 1, 3) := by decide +kernel
theorem d_M_shortOf_74 : decode b_M_shortOf 74 = .ok (.goto (-25), 3) := by decide +kernel
theorem d_M_shortOf_77 : decode b_M_shortOf 77 = .ok (.bipush (-5), 2) := by decide +kernel
theorem d_M_shortOf_79 : decode b_M_shortOf 79 = .ok (.ireturn, 1) := by decide +kernel
set_option maxRecDepth 20000 in
theorem c_M_shortOf_b49 {r : Int32} {wz : gW} {rec49 : Nat × Int32 × Int32 × Int32 × gW → Option (Int32 × gW)} (ih49 : ∀ (a0 : Nat) (a1 : Int32) (a2 : Int32) (a3 : Int32) (w : gW) (ls : Array Slot) (H : Heap) (locs : List Loc), rec49 (a0, a1, a2, a3, w) = some (r, wz) → lv_has ls 4 [(0, .ref (B + a0)), (1, .int a1), (2, .int a2), (3, .int a3)] → gRep D cA B w H → va_S (gA B) s.heap H locs → W p l e ({ frames := 7, cells := 0, slots := 0, locals := 190 } : Room) s m args below meth c H locs 0 0 (MQ below (gQi D cA B r wz) args s 0 0 (gA B)) (F0 m 49 ls [])) (C : gC p s m args meth c "RidCoppersModel" b_M_shortOf 4 (some .int) D cA oc B) (a0 : Nat) (a1 : Int32) (a2 : Int32) (a3 : Int32) (w : gW) {ls : Array Slot} {H : Heap} {locs : List Loc} (hl : lv_has ls 4 [(0, .ref (B + a0)), (1, .int a1), (2, .int a2), (3, .int a3)]) (hf : f_M_shortOf_b49 N rec49 a0 a1 a2 a3 w = some (r, wz)) (hR : gRep D cA B w H) (hS : va_S (gA B) s.heap H locs) : W p l e ({ frames := 7, cells := 0, slots := 0, locals := 190 } : Room) s m args below meth c H locs 0 0 (MQ below (gQi D cA B r wz) args s 0 0 (gA B)) (F0 m 49 ls []) := by
  obtain ⟨hx, hb, hml, hown, hts, hr, hlocks, hK, hBs⟩ := id C
  unfold f_M_shortOf_b49 at hf
  refine lv_iload_n hx hb d_M_shortOf_49 rfl (lv_at hl 3 rfl) ?_
  refine lv_bipush (v := 61) hx hb d_M_shortOf_50 (by decide) ?_
  refine lv_icmp_ge (tgt := 77) hx hb d_M_shortOf_52 (by decide) (fun hc => ?_) (fun hc => ?_)
  · have hf := cd_t hc hf
    refine lv_bipush (v := (-5)) hx hb d_M_shortOf_77 (by decide) ?_
    exact g_iret hx hb hr hlocks hR hS hf rfl d_M_shortOf_79
  have hf := cd_f hc hf
  refine lv_iload_n hx hb d_M_shortOf_55 rfl (lv_at hl 3 rfl) ?_
  refine lv_iload_n hx hb d_M_shortOf_56 rfl (lv_at hl 2 rfl) ?_
  refine lv_icmp_gt (tgt := 77) hx hb d_M_shortOf_57 (by decide) (fun hc => ?_) (fun hc => ?_)
  · have hf := cd_t hc hf
    refine lv_bipush (v := (-5)) hx hb d_M_shortOf_77 (by decide) ?_
    exact g_iret hx hb hr hlocks hR hS hf rfl d_M_shortOf_79
  have hf := cd_f hc hf
  refine lv_aload_n hx hb d_M_shortOf_60 rfl (lv_at hl 0 rfl) ?_
  refine lv_iload_n hx hb d_M_shortOf_61 rfl (lv_at hl 1 rfl) ?_
  refine lv_iload_n hx hb d_M_shortOf_62 rfl (lv_at hl 3 rfl) ?_
  have ⟨h8, hf⟩ := gd_e hf
  have ⟨x5, w6, h7, hf⟩ := kl_e hf
  refine g_ki0 (g_rV (As := [.int a1, .int a3]) (rest := []) hx hb hml hown hts hK hR hS (c_M_chooses l D cA oc B N a0 a1 a3 w h7) I_M_chooses m_1352 mp_56 (gRecv hK hR (ci := 12) rfl h8) rfl rfl (Nat.le_of_ble_eq_true rfl) hl.1 ⟨Nat.le_of_ble_eq_true rfl, Nat.le_of_ble_eq_true rfl⟩ ⟨Nat.le_of_ble_eq_true rfl, Nat.le_of_ble_eq_true rfl⟩ d_M_shortOf_63) hS (fun H locs hR hS => ?_)
  refine lv_if_ne (tgt := 71) hx hb d_M_shortOf_66 (by decide) (fun hc => ?_) (fun hc => ?_)
  · have hf := cd_f hc hf
    refine g_iinc (lv' := fun x9 => [(3, .int x9), (0, .ref (B + a0)), (1, .int a1), (2, .int a2)]) hf hx hb d_M_shortOf_71 hl (k := 3) rfl (by decide) (by decide) (fun _ => rfl) (fun x9 ls hf hl => ?_)
    refine lv_goto (tgt := 49) hx hb d_M_shortOf_74 (by decide) ?_
    exact ih49 a0 a1 a2 x9 w6 _ _ _ hf (lv_sub hl [1, 2, 3, 0] rfl) hR hS
  have hf := cd_t hc hf
  refine lv_iload_n hx hb d_M_shortOf_69 rfl (lv_at hl 3 rfl) ?_
  exact g_iret hx hb hr hlocks hR hS hf rfl d_M_shortOf_70
theorem c_M_shortOf_l49 {r : Int32} {wz : gW} (C : gC p s m args meth c "RidCoppersModel" b_M_shortOf 4 (some .int) D cA oc B) (a0 : Nat) (a1 : Int32) (a2 : Int32) (a3 : Int32) (w : gW) {ls : Array Slot} {H : Heap} {locs : List Loc} (hl : lv_has ls 4 [(0, .ref (B + a0)), (1, .int a1), (2, .int a2), (3, .int a3)]) (hf : f_M_shortOf_l49 N a0 a1 a2 a3 w = some (r, wz)) (hR : gRep D cA B w H) (hS : va_S (gA B) s.heap H locs) : W p l e ({ frames := 7, cells := 0, slots := 0, locals := 190 } : Room) s m args below meth c H locs 0 0 (MQ below (gQi D cA B r wz) args s 0 0 (gA B)) (F0 m 49 ls []) := by
  unfold f_M_shortOf_l49 at hf
  suffices hh : ∀ n : Nat, ∀ (a0 : Nat) (a1 : Int32) (a2 : Int32) (a3 : Int32) (w : gW) (ls : Array Slot) (H : Heap) (locs : List Loc), itr (fun rec (q : Nat × Int32 × Int32 × Int32 × gW) => f_M_shortOf_b49 N rec q.1 q.2.1 q.2.2.1 q.2.2.2.1 q.2.2.2.2) n (a0, a1, a2, a3, w) = some (r, wz) → lv_has ls 4 [(0, .ref (B + a0)), (1, .int a1), (2, .int a2), (3, .int a3)] → gRep D cA B w H → va_S (gA B) s.heap H locs → W p l e ({ frames := 7, cells := 0, slots := 0, locals := 190 } : Room) s m args below meth c H locs 0 0 (MQ below (gQi D cA B r wz) args s 0 0 (gA B)) (F0 m 49 ls []) from hh N a0 a1 a2 a3 w ls H locs hf hl hR hS
  intro n
  induction n with
  | zero => intro a0 a1 a2 a3 w ls H locs hf; cases hf
  | succ n ihn =>
    intro a0 a1 a2 a3 w ls H locs hf hl hR hS
    exact c_M_shortOf_b49 (N := N) ihn C a0 a1 a2 a3 w hl ((itr_s _ _ _).symm.trans hf) hR hS
set_option maxRecDepth 20000 in
theorem c_M_shortOf_b14 {r : Int32} {wz : gW} {rec14 : Nat × Int32 × Int32 × Int32 × gW → Option (Int32 × gW)} (ih14 : ∀ (a0 : Nat) (a1 : Int32) (a2 : Int32) (a3 : Int32) (w : gW) (ls : Array Slot) (H : Heap) (locs : List Loc), rec14 (a0, a1, a2, a3, w) = some (r, wz) → lv_has ls 4 [(0, .ref (B + a0)), (1, .int a1), (2, .int a2), (3, .int a3)] → gRep D cA B w H → va_S (gA B) s.heap H locs → W p l e ({ frames := 7, cells := 0, slots := 0, locals := 190 } : Room) s m args below meth c H locs 0 0 (MQ below (gQi D cA B r wz) args s 0 0 (gA B)) (F0 m 14 ls [])) (C : gC p s m args meth c "RidCoppersModel" b_M_shortOf 4 (some .int) D cA oc B) (a0 : Nat) (a1 : Int32) (a2 : Int32) (a3 : Int32) (w : gW) {ls : Array Slot} {H : Heap} {locs : List Loc} (hl : lv_has ls 4 [(0, .ref (B + a0)), (1, .int a1), (2, .int a2), (3, .int a3)]) (hf : f_M_shortOf_b14 N rec14 a0 a1 a2 a3 w = some (r, wz)) (hR : gRep D cA B w H) (hS : va_S (gA B) s.heap H locs) : W p l e ({ frames := 7, cells := 0, slots := 0, locals := 190 } : Room) s m args below meth c H locs 0 0 (MQ below (gQi D cA B r wz) args s 0 0 (gA B)) (F0 m 14 ls []) := by
  obtain ⟨hx, hb, hml, hown, hts, hr, hlocks, hK, hBs⟩ := id C
  unfold f_M_shortOf_b14 at hf
  refine lv_iload_n hx hb d_M_shortOf_14 rfl (lv_at hl 3 rfl) ?_
  refine lv_bipush (v := 6) hx hb d_M_shortOf_15 (by decide) ?_
  refine lv_icmp_ge (tgt := 47) hx hb d_M_shortOf_17 (by decide) (fun hc => ?_) (fun hc => ?_)
  · have hf := cd_t hc hf
    refine lv_iconst (v := 1) hx hb d_M_shortOf_47 (by decide) ?_
    refine lv_istore_n (lv' := [(3, .int 1), (0, .ref (B + a0)), (1, .int a1), (2, .int a2)]) hx hb d_M_shortOf_48 rfl hl (by decide) rfl (fun ls hl => ?_)
    exact c_M_shortOf_l49 C a0 a1 a2 1 w (lv_sub hl [1, 2, 3, 0] rfl) hf hR hS
  have hf := cd_f hc hf
  refine lv_iload_n hx hb d_M_shortOf_20 rfl (lv_at hl 2 rfl) ?_
  refine lv_aload_n hx hb d_M_shortOf_21 rfl (lv_at hl 0 rfl) ?_
  have ⟨h10, hf⟩ := gd_e hf
  have ⟨x11, h12, hf⟩ := rr_e hf
  refine g_getR hx hb hts hown hK hR fl_M_29 (fun _ => rfl) h10 h12 d_M_shortOf_22 ?_
  refine lv_bipush (v := 6) hx hb d_M_shortOf_25 (by decide) ?_
  refine lv_iload_n hx hb d_M_shortOf_27 rfl (lv_at hl 1 rfl) ?_
  refine lv_imul hx hb d_M_shortOf_28 ?_
  refine g_nI hf (fun x13 hf => ?_)
  refine lv_iload_n hx hb d_M_shortOf_29 rfl (lv_at hl 3 rfl) ?_
  refine lv_iadd hx hb d_M_shortOf_30 ?_
  refine g_nI hf (fun x14 hf => ?_)
  have ⟨h15, hf⟩ := gd_e hf
  have ⟨h16, hf⟩ := gd_e hf
  refine g_iald hx hb hK hR h15 h16 d_M_shortOf_31 ?_
  refine g_nI hf (fun x17 hf => ?_)
  refine lv_aload_n hx hb d_M_shortOf_32 rfl (lv_at hl 0 rfl) ?_
  have ⟨x18, h19, hf⟩ := rr_e hf
  refine g_getR hx hb hts hown hK hR fl_M_13 (fun _ => rfl) h10 h19 d_M_shortOf_33 ?_
  refine lv_iload_n hx hb d_M_shortOf_36 rfl (lv_at hl 3 rfl) ?_
  have ⟨h20, hf⟩ := gd_e hf
  have ⟨h21, hf⟩ := gd_e hf
  refine g_iald hx hb hK hR h20 h21 d_M_shortOf_37 ?_
  refine g_nI hf (fun x22 hf => ?_)
  refine lv_imul hx hb d_M_shortOf_38 ?_
  refine g_nI hf (fun x23 hf => ?_)
  refine lv_iadd hx hb d_M_shortOf_39 ?_
  refine g_nI hf (fun x24 hf => ?_)
  refine lv_istore_n (lv' := [(2, .int x24), (0, .ref (B + a0)), (1, .int a1), (3, .int a3)]) hx hb d_M_shortOf_40 rfl hl (by decide) rfl (fun ls hl => ?_)
  refine g_iinc (lv' := fun x25 => [(3, .int x25), (2, .int x24), (0, .ref (B + a0)), (1, .int a1)]) hf hx hb d_M_shortOf_41 hl (k := 3) rfl (by decide) (by decide) (fun _ => rfl) (fun x25 ls hf hl => ?_)
  refine lv_goto (tgt := 14) hx hb d_M_shortOf_44 (by decide) ?_
  exact ih14 a0 a1 x24 x25 w _ _ _ hf (lv_sub hl [2, 3, 1, 0] rfl) hR hS
theorem c_M_shortOf_l14 {r : Int32} {wz : gW} (C : gC p s m args meth c "RidCoppersModel" b_M_shortOf 4 (some .int) D cA oc B) (a0 : Nat) (a1 : Int32) (a2 : Int32) (a3 : Int32) (w : gW) {ls : Array Slot} {H : Heap} {locs : List Loc} (hl : lv_has ls 4 [(0, .ref (B + a0)), (1, .int a1), (2, .int a2), (3, .int a3)]) (hf : f_M_shortOf_l14 N a0 a1 a2 a3 w = some (r, wz)) (hR : gRep D cA B w H) (hS : va_S (gA B) s.heap H locs) : W p l e ({ frames := 7, cells := 0, slots := 0, locals := 190 } : Room) s m args below meth c H locs 0 0 (MQ below (gQi D cA B r wz) args s 0 0 (gA B)) (F0 m 14 ls []) := by
  unfold f_M_shortOf_l14 at hf
  suffices hh : ∀ n : Nat, ∀ (a0 : Nat) (a1 : Int32) (a2 : Int32) (a3 : Int32) (w : gW) (ls : Array Slot) (H : Heap) (locs : List Loc), itr (fun rec (q : Nat × Int32 × Int32 × Int32 × gW) => f_M_shortOf_b14 N rec q.1 q.2.1 q.2.2.1 q.2.2.2.1 q.2.2.2.2) n (a0, a1, a2, a3, w) = some (r, wz) → lv_has ls 4 [(0, .ref (B + a0)), (1, .int a1), (2, .int a2), (3, .int a3)] → gRep D cA B w H → va_S (gA B) s.heap H locs → W p l e ({ frames := 7, cells := 0, slots := 0, locals := 190 } : Room) s m args below meth c H locs 0 0 (MQ below (gQi D cA B r wz) args s 0 0 (gA B)) (F0 m 14 ls []) from hh N a0 a1 a2 a3 w ls H locs hf hl hR hS
  intro n
  induction n with
  | zero => intro a0 a1 a2 a3 w ls H locs hf; cases hf
  | succ n ihn =>
    intro a0 a1 a2 a3 w ls H locs hf hl hR hS
    exact c_M_shortOf_b14 (N := N) ihn C a0 a1 a2 a3 w hl ((itr_s _ _ _).symm.trans hf) hR hS
set_option maxRecDepth 20000 in
theorem c_M_shortOf_b0 {r : Int32} {wz : gW} (C : gC p s m args meth c "RidCoppersModel" b_M_shortOf 4 (some .int) D cA oc B) (a0 : Nat) (a1 : Int32) (w : gW) {ls : Array Slot} {H : Heap} {locs : List Loc} (hl : lv_has ls 4 [(0, .ref (B + a0)), (1, .int a1)]) (hf : f_M_shortOf_b0 N a0 a1 w = some (r, wz)) (hR : gRep D cA B w H) (hS : va_S (gA B) s.heap H locs) : W p l e ({ frames := 7, cells := 0, slots := 0, locals := 190 } : Room) s m args below meth c H locs 0 0 (MQ below (gQi D cA B r wz) args s 0 0 (gA B)) (F0 m 0 ls []) := by
  obtain ⟨hx, hb, hml, hown, hts, hr, hlocks, hK, hBs⟩ := id C
  unfold f_M_shortOf_b0 at hf
  refine lv_aload_n hx hb d_M_shortOf_0 rfl (lv_at hl 0 rfl) ?_
  refine lv_iload_n hx hb d_M_shortOf_1 rfl (lv_at hl 1 rfl) ?_
  have ⟨h4, hf⟩ := gd_e hf
  have ⟨x1, w2, h3, hf⟩ := kl_e hf
  refine g_ki0 (g_rV (As := [.int a1]) (rest := []) hx hb hml hown hts hK hR hS (c_M_isPayer l D cA oc B N a0 a1 w h3) I_M_isPayer m_1212 mp_28 (gRecv hK hR (ci := 12) rfl h4) rfl rfl (Nat.le_of_ble_eq_true rfl) hl.1 ⟨Nat.le_of_ble_eq_true rfl, Nat.le_of_ble_eq_true rfl⟩ ⟨Nat.le_of_ble_eq_true rfl, Nat.le_of_ble_eq_true rfl⟩ d_M_shortOf_2) hS (fun H locs hR hS => ?_)
  refine lv_if_ne (tgt := 10) hx hb d_M_shortOf_5 (by decide) (fun hc => ?_) (fun hc => ?_)
  · have hf := cd_f hc hf
    refine lv_iconst (v := 0) hx hb d_M_shortOf_10 (by decide) ?_
    refine lv_istore_n (lv' := [(2, .int 0), (0, .ref (B + a0)), (1, .int a1)]) hx hb d_M_shortOf_11 rfl hl (by decide) rfl (fun ls hl => ?_)
    refine lv_iconst (v := 0) hx hb d_M_shortOf_12 (by decide) ?_
    refine lv_istore_n (lv' := [(3, .int 0), (2, .int 0), (0, .ref (B + a0)), (1, .int a1)]) hx hb d_M_shortOf_13 rfl hl (by decide) rfl (fun ls hl => ?_)
    exact c_M_shortOf_l14 C a0 a1 0 0 w2 (lv_sub hl [2, 3, 1, 0] rfl) hf hR hS
  have hf := cd_t hc hf
  refine lv_iconst (v := (-1)) hx hb d_M_shortOf_8 (by decide) ?_
  exact g_iret hx hb hr hlocks hR hS hf rfl d_M_shortOf_9
theorem c_M_shortOf (l : Launch) (D : va_G) (cA : Nat → ClassId) (oc : gO) (B N : Nat) (a0 : Nat) (a1 : Int32) (w : gW) {wz : gW} {r : Int32} (hf : f_M_shortOf N a0 a1 w = some (r, wz)) : Met l y_M_shortOf (Cond.code y_M_shortOf b_M_shortOf 4 (some .int) :: lw_good) ({ frames := 7, cells := 0, slots := 0, locals := 190 } : Room) (gPre D cA oc B [.ref (B + a0), .int a1] w) (gQi D cA B r wz) 0 0 (gA B) := by
  refine Met.ofW (cc := b_M_shortOf) (maxL := 4) (ret := (some .int)) (by decide +kernel) rfl ?_
  intro p e s m args below meth c s₁ Bd hml hv
  obtain ⟨hargs, C, hR⟩ := gC.enter (l := l) rfl Bd hml hv
  subst hargs
  have hl := lv_entry ([.ref (B + a0), .int a1]) (n := 4) (Nat.le_of_ble_eq_true rfl)
  rw [lg_entry_eq]
  generalize (lg_sl ([.ref (B + a0), .int a1]) ++ List.replicate (4 - (lg_sl ([.ref (B + a0), .int a1])).length) Slot.unset).toArray = ls at hl ⊢
  have hl : lv_has ls 4 [(0, .ref (B + a0)), (1, .int a1)] := hl
  exact c_M_shortOf_b0 C a0 a1 w (lv_sub hl [0, 1] rfl) hf hR va_S.rf
