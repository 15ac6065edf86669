variable {p : Program} {l : Launch} {e : Env} {s : State} {m : MethodId} {args : Array Value} {below : List Frame} {meth : Method} {c : Code} {D : va_G} {cA : Nat → ClassId} {oc : gO} {B N : Nat}
theorem d_Tn_factsOf_0 : decode b_Tn_factsOf 0 = .ok (.aload_n 0, 1) := by decide +kernel
theorem d_Tn_factsOf_1 : decode b_Tn_factsOf 1 = .ok (.getfield 40, 3) := by decide +kernel
theorem d_Tn_factsOf_4 : decode b_Tn_factsOf 4 = .ok (.iconst 0, 1) := by decide +kernel
theorem d_Tn_factsOf_5 : decode b_Tn_factsOf 5 = .ok (.iload_n 1, 1) := by decide +kernel
theorem d_Tn_factsOf_6 : decode b_Tn_factsOf 6 = .ok (.iastore, 1) := by decide +kernel
theorem d_Tn_factsOf_7 : decode b_Tn_factsOf 7 = .ok (.aload_n 0, 1) := by decide +kernel
theorem d_Tn_factsOf_8 : decode b_Tn_factsOf 8 = .ok (.getfield 40, 3) := by decide +kernel
theorem d_Tn_factsOf_11 : decode b_Tn_factsOf 11 = .ok (.iconst 1, 1) := by decide +kernel
theorem d_Tn_factsOf_12 : decode b_Tn_factsOf 12 = .ok (.getstatic 97, 3) := by decide +kernel
theorem d_Tn_factsOf_15 : decode b_Tn_factsOf 15 = .ok (.iload_n 1, 1) := by decide +kernel
theorem d_Tn_factsOf_16 : decode b_Tn_factsOf 16 = .ok (.iaload, 1) := by decide +kernel
theorem d_Tn_factsOf_17 : decode b_Tn_factsOf 17 = .ok (.iastore, 1) := by decide +kernel
theorem d_Tn_factsOf_18 : decode b_Tn_factsOf 18 = .ok (.iconst 2, 1) := by decide +kernel
theorem d_Tn_factsOf_19 : decode b_Tn_factsOf 19 = .ok (.istore_n 2, 1) := by decide +kernel
theorem d_Tn_factsOf_20 : decode b_Tn_factsOf 20 = .ok (.iload_n 2, 1) := by decide +kernel
theorem d_Tn_factsOf_21 : decode b_Tn_factsOf 21 = .ok (.aload_n 0, 1) := by decide +kernel
theorem d_Tn_factsOf_22 : decode b_Tn_factsOf 22 = .ok (.getfield 40, 3) := by decide +kernel
theorem d_Tn_factsOf_25 : decode b_Tn_factsOf 25 = .ok (.arraylength, 1) := by decide +kernel
theorem d_Tn_factsOf_26 : decode b_Tn_factsOf 26 = .ok (.if_icmp .ge 16, 3) := by decide +kernel
theorem d_Tn_factsOf_29 : decode b_Tn_factsOf 29 = .ok (.aload_n 0, 1) := by decide +kernel
theorem d_Tn_factsOf_30 : decode b_Tn_factsOf 30 = .ok (.getfield 40, 3) := by decide +kernel
theorem d_Tn_factsOf_33 : decode b_Tn_factsOf 33 = .ok (.iload_n 2, 1) := by decide +kernel
theorem d_Tn_factsOf_34 : decode b_Tn_factsOf 34 = .ok (.iconst 0, 1) := by decide +kernel
theorem d_Tn_factsOf_35 : decode b_Tn_factsOf 35 = .ok (.iastore, 1) := by decide +kernel
theorem d_Tn_factsOf_36 : decode b_Tn_factsOf 36 = .ok (.iinc 2 1, 3) := by decide +kernel
theorem d_Tn_factsOf_39 : decode b_Tn_factsOf 39 = .ok (.goto (-19), 3) := by decide +kernel
theorem d_Tn_factsOf_42 : decode b_Tn_factsOf 42 = .ok (.return_, 1) := by decide +kernel
set_option maxRecDepth 20000 in
theorem c_Tn_factsOf_b20 {r : Unit} {wz : gW} {rec20 : Nat × Int32 × gW → Option (Unit × gW)} (ih20 : ∀ (a0 : Nat) (a2 : Int32) (w : gW) (ls : Array Slot) (H : Heap) (locs : List Loc), rec20 (a0, a2, w) = some (r, wz) → lv_has ls 3 [(0, .ref (B + a0)), (2, .int a2)] → gRep D cA B w H → va_S (gA B) s.heap H locs → W p l e ({ frames := 1, cells := 0, slots := 0, locals := 40 } : Room) s m args below meth c H locs 0 0 (MQ below (gQv D cA B r wz) args s 0 0 (gA B)) (F0 m 20 ls [])) (C : gC p s m args meth c "RidCoppers$Town" b_Tn_factsOf 3 none D cA oc B) (a0 : Nat) (a2 : Int32) (w : gW) {ls : Array Slot} {H : Heap} {locs : List Loc} (hl : lv_has ls 3 [(0, .ref (B + a0)), (2, .int a2)]) (hf : f_Tn_factsOf_b20 N rec20 a0 a2 w = some (r, wz)) (hR : gRep D cA B w H) (hS : va_S (gA B) s.heap H locs) : W p l e ({ frames := 1, cells := 0, slots := 0, locals := 40 } : Room) s m args below meth c H locs 0 0 (MQ below (gQv D cA B r wz) args s 0 0 (gA B)) (F0 m 20 ls []) := by
  obtain ⟨hx, hb, hml, hown, hts, hr, hlocks, hK, hBs⟩ := id C
  unfold f_Tn_factsOf_b20 at hf
  refine lv_iload_n hx hb d_Tn_factsOf_20 rfl (lv_at hl 1 rfl) ?_
  refine lv_aload_n hx hb d_Tn_factsOf_21 rfl (lv_at hl 0 rfl) ?_
  have ⟨h15, hf⟩ := gd_e hf
  have ⟨x16, h17, hf⟩ := rr_e hf
  refine g_getR hx hb hts hown hK hR fl_Tn_40 (fun _ => rfl) h15 h17 d_Tn_factsOf_22 ?_
  have ⟨h18, hf⟩ := gd_e hf
  refine g_alen hx hb hK hR (by decide) h18 d_Tn_factsOf_25 ?_
  refine g_nI hf (fun x19 hf => ?_)
  refine lv_icmp_ge (tgt := 42) hx hb d_Tn_factsOf_26 (by decide) (fun hc => ?_) (fun hc => ?_)
  · have hf := cd_t hc hf
    exact g_vret hx hb hr hlocks hR hS hf d_Tn_factsOf_42
  have hf := cd_f hc hf
  refine lv_aload_n hx hb d_Tn_factsOf_29 rfl (lv_at hl 0 rfl) ?_
  refine g_getR hx hb hts hown hK hR fl_Tn_40 (fun _ => rfl) h15 h17 d_Tn_factsOf_30 ?_
  refine lv_iload_n hx hb d_Tn_factsOf_33 rfl (lv_at hl 1 rfl) ?_
  refine lv_iconst (v := 0) hx hb d_Tn_factsOf_34 (by decide) ?_
  have ⟨h20, hf⟩ := gd_e hf
  refine g_iast hx hb hK hR hS h18 h20 d_Tn_factsOf_35 (fun H locs hR hS => ?_)
  refine g_nW hf hR (fun w21 hf hR => ?_)
  refine g_iinc (lv' := fun x22 => [(2, .int x22), (0, .ref (B + a0))]) hf hx hb d_Tn_factsOf_36 hl (k := 1) rfl (by decide) (by decide) (fun _ => rfl) (fun x22 ls hf hl => ?_)
  refine lv_goto (tgt := 20) hx hb d_Tn_factsOf_39 (by decide) ?_
  exact ih20 a0 x22 w21 _ _ _ hf (lv_sub hl [1, 0] rfl) hR hS
theorem c_Tn_factsOf_l20 {r : Unit} {wz : gW} (C : gC p s m args meth c "RidCoppers$Town" b_Tn_factsOf 3 none D cA oc B) (a0 : Nat) (a2 : Int32) (w : gW) {ls : Array Slot} {H : Heap} {locs : List Loc} (hl : lv_has ls 3 [(0, .ref (B + a0)), (2, .int a2)]) (hf : f_Tn_factsOf_l20 N a0 a2 w = some (r, wz)) (hR : gRep D cA B w H) (hS : va_S (gA B) s.heap H locs) : W p l e ({ frames := 1, cells := 0, slots := 0, locals := 40 } : Room) s m args below meth c H locs 0 0 (MQ below (gQv D cA B r wz) args s 0 0 (gA B)) (F0 m 20 ls []) := by
  unfold f_Tn_factsOf_l20 at hf
  suffices hh : ∀ n : Nat, ∀ (a0 : Nat) (a2 : Int32) (w : gW) (ls : Array Slot) (H : Heap) (locs : List Loc), itr (fun rec (q : Nat × Int32 × gW) => f_Tn_factsOf_b20 N rec q.1 q.2.1 q.2.2) n (a0, a2, w) = some (r, wz) → lv_has ls 3 [(0, .ref (B + a0)), (2, .int a2)] → gRep D cA B w H → va_S (gA B) s.heap H locs → W p l e ({ frames := 1, cells := 0, slots := 0, locals := 40 } : Room) s m args below meth c H locs 0 0 (MQ below (gQv D cA B r wz) args s 0 0 (gA B)) (F0 m 20 ls []) from hh N a0 a2 w ls H locs hf hl hR hS
  intro n
  induction n with
  | zero => intro a0 a2 w ls H locs hf; cases hf
  | succ n ihn =>
    intro a0 a2 w ls H locs hf hl hR hS
    exact c_Tn_factsOf_b20 (N := N) ihn C a0 a2 w hl ((itr_s _ _ _).symm.trans hf) hR hS
set_option maxRecDepth 20000 in
theorem c_Tn_factsOf_b0 {r : Unit} {wz : gW} (C : gC p s m args meth c "RidCoppers$Town" b_Tn_factsOf 3 none D cA oc B) (a0 : Nat) (a1 : Int32) (w : gW) {ls : Array Slot} {H : Heap} {locs : List Loc} (hl : lv_has ls 3 [(0, .ref (B + a0)), (1, .int a1)]) (hf : f_Tn_factsOf_b0 N a0 a1 w = some (r, wz)) (hR : gRep D cA B w H) (hS : va_S (gA B) s.heap H locs) : W p l e ({ frames := 1, cells := 0, slots := 0, locals := 40 } : Room) s m args below meth c H locs 0 0 (MQ below (gQv D cA B r wz) args s 0 0 (gA B)) (F0 m 0 ls []) := by
  obtain ⟨hx, hb, hml, hown, hts, hr, hlocks, hK, hBs⟩ := id C
  unfold f_Tn_factsOf_b0 at hf
  refine lv_aload_n hx hb d_Tn_factsOf_0 rfl (lv_at hl 0 rfl) ?_
  have ⟨h1, hf⟩ := gd_e hf
  have ⟨x2, h3, hf⟩ := rr_e hf
  refine g_getR hx hb hts hown hK hR fl_Tn_40 (fun _ => rfl) h1 h3 d_Tn_factsOf_1 ?_
  refine lv_iconst (v := 0) hx hb d_Tn_factsOf_4 (by decide) ?_
  refine lv_iload_n hx hb d_Tn_factsOf_5 rfl (lv_at hl 1 rfl) ?_
  have ⟨h4, hf⟩ := gd_e hf
  have ⟨h5, hf⟩ := gd_e hf
  refine g_iast hx hb hK hR hS h4 h5 d_Tn_factsOf_6 (fun H locs hR hS => ?_)
  refine g_nW hf hR (fun w6 hf hR => ?_)
  refine lv_aload_n hx hb d_Tn_factsOf_7 rfl (lv_at hl 0 rfl) ?_
  have ⟨h7, hf⟩ := gd_e hf
  have ⟨x8, h9, hf⟩ := rr_e hf
  refine g_getR hx hb hts hown hK hR fl_Tn_40 (fun _ => rfl) h7 h9 d_Tn_factsOf_8 ?_
  refine lv_iconst (v := 1) hx hb d_Tn_factsOf_11 (by decide) ?_
  refine g_worthN hx hb hown hK hS hK.2.2.2.1.1 d_Tn_factsOf_12 ?_
  refine lv_iload_n hx hb d_Tn_factsOf_15 rfl (lv_at hl 1 rfl) ?_
  have ⟨h10, hf⟩ := gd_e hf
  refine g_wld hx hb hK hS h10 d_Tn_factsOf_16 ?_
  refine g_nI hf (fun x11 hf => ?_)
  have ⟨h12, hf⟩ := gd_e hf
  have ⟨h13, hf⟩ := gd_e hf
  refine g_iast hx hb hK hR hS h12 h13 d_Tn_factsOf_17 (fun H locs hR hS => ?_)
  refine g_nW hf hR (fun w14 hf hR => ?_)
  refine lv_iconst (v := 2) hx hb d_Tn_factsOf_18 (by decide) ?_
  refine lv_istore_n (lv' := [(2, .int 2), (0, .ref (B + a0)), (1, .int a1)]) hx hb d_Tn_factsOf_19 rfl hl (by decide) rfl (fun ls hl => ?_)
  exact c_Tn_factsOf_l20 C a0 2 w14 (lv_sub hl [1, 0] rfl) hf hR hS
theorem c_Tn_factsOf (l : Launch) (D : va_G) (cA : Nat → ClassId) (oc : gO) (B N : Nat) (a0 : Nat) (a1 : Int32) (w : gW) {wz : gW} {r : Unit} (hf : f_Tn_factsOf N a0 a1 w = some (r, wz)) : Met l y_Tn_factsOf (Cond.code y_Tn_factsOf b_Tn_factsOf 3 none :: lw_good) ({ frames := 1, cells := 0, slots := 0, locals := 40 } : Room) (gPre D cA oc B [.ref (B + a0), .int a1] w) (gQv D cA B r wz) 0 0 (gA B) := by
  refine Met.ofW (cc := b_Tn_factsOf) (maxL := 3) (ret := none) (by decide +kernel) rfl ?_
  intro p e s m args below meth c s₁ Bd hml hv
  obtain ⟨hargs, C, hR⟩ := gC.enter (l := l) rfl Bd hml hv
  subst hargs
  have hl := lv_entry ([.ref (B + a0), .int a1]) (n := 3) (Nat.le_of_ble_eq_true rfl)
  rw [lg_entry_eq]
  generalize (lg_sl ([.ref (B + a0), .int a1]) ++ List.replicate (3 - (lg_sl ([.ref (B + a0), .int a1])).length) Slot.unset).toArray = ls at hl ⊢
  have hl : lv_has ls 3 [(0, .ref (B + a0)), (1, .int a1)] := hl
  exact c_Tn_factsOf_b0 C a0 a1 w (lv_sub hl [0, 1] rfl) hf hR va_S.rf
theorem d_Tn_testHolds_0 : decode b_Tn_testHolds 0 = .ok (.aload_n 0, 1) := by decide +kernel
theorem d_Tn_testHolds_1 : decode b_Tn_testHolds 1 = .ok (.getfield 40, 3) := by decide +kernel
theorem d_Tn_testHolds_4 : decode b_Tn_testHolds 4 = .ok (.iload_n 1, 1) := by decide +kernel
theorem d_Tn_testHolds_5 : decode b_Tn_testHolds 5 = .ok (.sipush 300, 3) := by decide +kernel
theorem d_Tn_testHolds_8 : decode b_Tn_testHolds 8 = .ok (.idiv, 1) := by decide +kernel
theorem d_Tn_testHolds_9 : decode b_Tn_testHolds 9 = .ok (.iaload, 1) := by decide +kernel
theorem d_Tn_testHolds_10 : decode b_Tn_testHolds 10 = .ok (.istore_n 2, 1) := by decide +kernel
theorem d_Tn_testHolds_11 : decode b_Tn_testHolds 11 = .ok (.iload_n 1, 1) := by decide +kernel
theorem d_Tn_testHolds_12 : decode b_Tn_testHolds 12 = .ok (.bipush 100, 2) := by decide +kernel
theorem d_Tn_testHolds_14 : decode b_Tn_testHolds 14 = .ok (.irem, 1) := by decide +kernel
theorem d_Tn_testHolds_15 : decode b_Tn_testHolds 15 = .ok (.istore_n 3, 1) := by decide +kernel
theorem d_Tn_testHolds_16 : decode b_Tn_testHolds 16 = .ok (.iload_n 1, 1) := by decide +kernel
theorem d_Tn_testHolds_17 : decode b_Tn_testHolds 17 = .ok (.bipush 100, 2) := by decide +kernel
theorem d_Tn_testHolds_19 : decode b_Tn_testHolds 19 = .ok (.idiv, 1) := by decide +kernel
theorem d_Tn_testHolds_20 : decode b_Tn_testHolds 20 = .ok (.iconst 3, 1) := by decide +kernel
theorem d_Tn_testHolds_21 : decode b_Tn_testHolds 21 = .ok (.irem, 1) := by decide +kernel
theorem d_Tn_testHolds_22 : decode b_Tn_testHolds 22 = .ok (.lookupswitch 48 #[(0, 26), (1, 37)], 26) := by decide +kernel
theorem d_Tn_testHolds_48 : decode b_Tn_testHolds 48 = .ok (.iload_n 2, 1) := by decide +kernel
theorem d_Tn_testHolds_49 : decode b_Tn_testHolds 49 = .ok (.iload_n 3, 1) := by decide +kernel
theorem d_Tn_testHolds_50 : decode b_Tn_testHolds 50 = .ok (.if_icmp .ge 7, 3) := by decide +kernel
theorem d_Tn_testHolds_53 : decode b_Tn_testHolds 53 = .ok (.iconst 1, 1) := by decide +kernel
theorem d_Tn_testHolds_54 : decode b_Tn_testHolds 54 = .ok (.goto 4, 3) := by decide +kernel
theorem d_Tn_testHolds_57 : decode b_Tn_testHolds 57 = .ok (.iconst 0, 1) := by decide +kernel
theorem d_Tn_testHolds_58 : decode b_Tn_testHolds 58 = .ok (.ireturn, 1) := by decide +kernel
theorem d_Tn_testHolds_59 : decode b_Tn_testHolds 59 = .ok (.iload_n 2, 1) := by decide +kernel
theorem d_Tn_testHolds_60 : decode b_Tn_testHolds 60 = .ok (.iload_n 3, 1) := by decide +kernel
theorem d_Tn_testHolds_61 : decode b_Tn_testHolds 61 = .ok (.if_icmp .ne 7, 3) := by decide +kernel
theorem d_Tn_testHolds_64 : decode b_Tn_testHolds 64 = .ok (.iconst 1, 1) := by decide +kernel
theorem d_Tn_testHolds_65 : decode b_Tn_testHolds 65 = .ok (.goto 4, 3) := by decide +kernel
theorem d_Tn_testHolds_68 : decode b_Tn_testHolds 68 = .ok (.iconst 0, 1) := by decide +kernel
theorem d_Tn_testHolds_69 : decode b_Tn_testHolds 69 = .ok (.ireturn, 1) := by decide +kernel
theorem d_Tn_testHolds_70 : decode b_Tn_testHolds 70 = .ok (.iload_n 2, 1) := by decide +kernel
theorem d_Tn_testHolds_71 : decode b_Tn_testHolds 71 = .ok (.iload_n 3, 1) := by decide +kernel
theorem d_Tn_testHolds_72 : decode b_Tn_testHolds 72 = .ok (.if_icmp .le 7, 3) := by decide +kernel
theorem d_Tn_testHolds_75 : decode b_Tn_testHolds 75 = .ok (.iconst 1, 1) := by decide +kernel
theorem d_Tn_testHolds_76 : decode b_Tn_testHolds 76 = .ok (.goto 4, 3) := by decide +kernel
theorem d_Tn_testHolds_79 : decode b_Tn_testHolds 79 = .ok (.iconst 0, 1) := by decide +kernel
theorem d_Tn_testHolds_80 : decode b_Tn_testHolds 80 = .ok (.ireturn, 1) := by decide +kernel
set_option maxRecDepth 20000 in
theorem c_Tn_testHolds_b0 {r : Int32} {wz : gW} (C : gC p s m args meth c "RidCoppers$Town" b_Tn_testHolds 4 (some .boolean) D cA oc B) (a0 : Nat) (a1 : Int32) (w : gW) {ls : Array Slot} {H : Heap} {locs : List Loc} (hl : lv_has ls 4 [(0, .ref (B + a0)), (1, .int a1)]) (hf : f_Tn_testHolds_b0 N a0 a1 w = some (r, wz)) (hR : gRep D cA B w H) (hS : va_S (gA B) s.heap H locs) : W p l e ({ frames := 1, cells := 0, slots := 0, locals := 40 } : Room) s m args below meth c H locs 0 0 (MQ below (gQi D cA B r wz) args s 0 0 (gA B)) (F0 m 0 ls []) := by
  obtain ⟨hx, hb, hml, hown, hts, hr, hlocks, hK, hBs⟩ := id C
  unfold f_Tn_testHolds_b0 at hf
  refine lv_aload_n hx hb d_Tn_testHolds_0 rfl (lv_at hl 0 rfl) ?_
  have ⟨h1, hf⟩ := gd_e hf
  have ⟨x2, h3, hf⟩ := rr_e hf
  refine g_getR hx hb hts hown hK hR fl_Tn_40 (fun _ => rfl) h1 h3 d_Tn_testHolds_1 ?_
  refine lv_iload_n hx hb d_Tn_testHolds_4 rfl (lv_at hl 1 rfl) ?_
  refine lv_sipush (v := 300) hx hb d_Tn_testHolds_5 (by decide) ?_
  refine lv_idiv hx hb d_Tn_testHolds_8 (by decide) ?_
  refine g_nI hf (fun x4 hf => ?_)
  have ⟨h5, hf⟩ := gd_e hf
  have ⟨h6, hf⟩ := gd_e hf
  refine g_iald hx hb hK hR h5 h6 d_Tn_testHolds_9 ?_
  refine g_nI hf (fun x7 hf => ?_)
  refine lv_istore_n (lv' := [(2, .int x7), (0, .ref (B + a0)), (1, .int a1)]) hx hb d_Tn_testHolds_10 rfl hl (by decide) rfl (fun ls hl => ?_)
  refine lv_iload_n hx hb d_Tn_testHolds_11 rfl (lv_at hl 2 rfl) ?_
  refine lv_bipush (v := 100) hx hb d_Tn_testHolds_12 (by decide) ?_
  refine lv_irem hx hb d_Tn_testHolds_14 (by decide) ?_
  refine g_nI hf (fun x8 hf => ?_)
  refine lv_istore_n (lv' := [(3, .int x8), (2, .int x7), (0, .ref (B + a0)), (1, .int a1)]) hx hb d_Tn_testHolds_15 rfl hl (by decide) rfl (fun ls hl => ?_)
  refine lv_iload_n hx hb d_Tn_testHolds_16 rfl (lv_at hl 3 rfl) ?_
  refine lv_bipush (v := 100) hx hb d_Tn_testHolds_17 (by decide) ?_
  refine lv_idiv hx hb d_Tn_testHolds_19 (by decide) ?_
  refine g_nI hf (fun x9 hf => ?_)
  refine lv_iconst (v := 3) hx hb d_Tn_testHolds_20 (by decide) ?_
  refine lv_irem hx hb d_Tn_testHolds_21 (by decide) ?_
  refine g_nI hf (fun x10 hf => ?_)
  by_cases hc11 : x10 = 0
  · refine lv_lookup (off := 26) (tgt := 48) hx hb d_Tn_testHolds_22 (by decide) (by rw [hc11]; decide) (by decide) ?_
    have hf := cd_t hc11 hf
    refine lv_iload_n hx hb d_Tn_testHolds_48 rfl (lv_at hl 1 rfl) ?_
    refine lv_iload_n hx hb d_Tn_testHolds_49 rfl (lv_at hl 0 rfl) ?_
    refine lv_icmp_ge (tgt := 57) hx hb d_Tn_testHolds_50 (by decide) (fun hc => ?_) (fun hc => ?_)
    · have hf := cd_t hc hf
      refine lv_iconst (v := 0) hx hb d_Tn_testHolds_57 (by decide) ?_
      exact g_iret hx hb hr hlocks hR hS hf rfl d_Tn_testHolds_58
    have hf := cd_f hc hf
    refine lv_iconst (v := 1) hx hb d_Tn_testHolds_53 (by decide) ?_
    refine lv_goto (tgt := 58) hx hb d_Tn_testHolds_54 (by decide) ?_
    exact g_iret hx hb hr hlocks hR hS hf rfl d_Tn_testHolds_58
  have hf := cd_f hc11 hf
  by_cases hc12 : x10 = 1
  · refine lv_lookup (off := 37) (tgt := 59) hx hb d_Tn_testHolds_22 (by decide) (by rw [hc12]; decide) (by decide) ?_
    have hf := cd_t hc12 hf
    refine lv_iload_n hx hb d_Tn_testHolds_59 rfl (lv_at hl 1 rfl) ?_
    refine lv_iload_n hx hb d_Tn_testHolds_60 rfl (lv_at hl 0 rfl) ?_
    refine lv_icmp_ne (tgt := 68) hx hb d_Tn_testHolds_61 (by decide) (fun hc => ?_) (fun hc => ?_)
    · have hf := cd_f hc hf
      refine lv_iconst (v := 0) hx hb d_Tn_testHolds_68 (by decide) ?_
      exact g_iret hx hb hr hlocks hR hS hf rfl d_Tn_testHolds_69
    have hf := cd_t hc hf
    refine lv_iconst (v := 1) hx hb d_Tn_testHolds_64 (by decide) ?_
    refine lv_goto (tgt := 69) hx hb d_Tn_testHolds_65 (by decide) ?_
    exact g_iret hx hb hr hlocks hR hS hf rfl d_Tn_testHolds_69
  have hf := cd_f hc12 hf
  refine lv_lookup (off := 48) (tgt := 70) hx hb d_Tn_testHolds_22 (by decide) ((lv_osw hc11 rfl).trans ((lv_osw hc12 rfl).trans (rfl))) (by decide) ?_
  refine lv_iload_n hx hb d_Tn_testHolds_70 rfl (lv_at hl 1 rfl) ?_
  refine lv_iload_n hx hb d_Tn_testHolds_71 rfl (lv_at hl 0 rfl) ?_
  refine lv_icmp_le (tgt := 79) hx hb d_Tn_testHolds_72 (by decide) (fun hc => ?_) (fun hc => ?_)
  · have hf := cd_t hc hf
    refine lv_iconst (v := 0) hx hb d_Tn_testHolds_79 (by decide) ?_
    exact g_iret hx hb hr hlocks hR hS hf rfl d_Tn_testHolds_80
  have hf := cd_f hc hf
  refine lv_iconst (v := 1) hx hb d_Tn_testHolds_75 (by decide) ?_
  refine lv_goto (tgt := 80) hx hb d_Tn_testHolds_76 (by decide) ?_
  exact g_iret hx hb hr hlocks hR hS hf rfl d_Tn_testHolds_80
theorem c_Tn_testHolds (l : Launch) (D : va_G) (cA : Nat → ClassId) (oc : gO) (B N : Nat) (a0 : Nat) (a1 : Int32) (w : gW) {wz : gW} {r : Int32} (hf : f_Tn_testHolds N a0 a1 w = some (r, wz)) : Met l y_Tn_testHolds (Cond.code y_Tn_testHolds b_Tn_testHolds 4 (some .boolean) :: lw_good) ({ frames := 1, cells := 0, slots := 0, locals := 40 } : Room) (gPre D cA oc B [.ref (B + a0), .int a1] w) (gQi D cA B r wz) 0 0 (gA B) := by
  refine Met.ofW (cc := b_Tn_testHolds) (maxL := 4) (ret := (some .boolean)) (by decide +kernel) rfl ?_
  intro p e s m args below meth c s₁ Bd hml hv
  obtain ⟨hargs, C, hR⟩ := gC.enter (l := l) rfl Bd hml hv
  subst hargs
  have hl := lv_entry ([.ref (B + a0), .int a1]) (n := 4) (Nat.le_of_ble_eq_true rfl)
  rw [lg_entry_eq]
  generalize (lg_sl ([.ref (B + a0), .int a1]) ++ List.replicate (4 - (lg_sl ([.ref (B + a0), .int a1])).length) Slot.unset).toArray = ls at hl ⊢
  have hl : lv_has ls 4 [(0, .ref (B + a0)), (1, .int a1)] := hl
  exact c_Tn_testHolds_b0 C a0 a1 w (lv_sub hl [0, 1] rfl) hf hR va_S.rf
theorem d_Tn_holds_0 : decode b_Tn_holds 0 = .ok (.iconst 0, 1) := by decide +kernel
theorem d_Tn_holds_1 : decode b_Tn_holds 1 = .ok (.istore_n 3, 1) := by decide +kernel
theorem d_Tn_holds_2 : decode b_Tn_holds 2 = .ok (.iload_n 1, 1) := by decide +kernel
theorem d_Tn_holds_3 : decode b_Tn_holds 3 = .ok (.istore 4, 2) := by decide +kernel
theorem d_Tn_holds_5 : decode b_Tn_holds 5 = .ok (.iload 4, 2) := by decide +kernel
theorem d_Tn_holds_7 : decode b_Tn_holds 7 = .ok (.iload_n 2, 1) := by decide +kernel
theorem d_Tn_holds_8 : decode b_Tn_holds 8 = .ok (.if_icmp .ge 93, 3) := by decide +kernel
theorem d_Tn_holds_11 : decode b_Tn_holds 11 = .ok (.aload_n 0, 1) := by decide +kernel
theorem d_Tn_holds_12 : decode b_Tn_holds 12 = .ok (.getfield 34, 3) := by decide +kernel
theorem d_Tn_holds_15 : decode b_Tn_holds 15 = .ok (.iload 4, 2) := by decide +kernel
theorem d_Tn_holds_17 : decode b_Tn_holds 17 = .ok (.iaload, 1) := by decide +kernel
theorem d_Tn_holds_18 : decode b_Tn_holds 18 = .ok (.istore 5, 2) := by decide +kernel
theorem d_Tn_holds_20 : decode b_Tn_holds 20 = .ok (.iload 5, 2) := by decide +kernel
theorem d_Tn_holds_22 : decode b_Tn_holds 22 = .ok (.iconst 3, 1) := by decide +kernel
theorem d_Tn_holds_23 : decode b_Tn_holds 23 = .ok (.if_icmp .lt 27, 3) := by decide +kernel
theorem d_Tn_holds_26 : decode b_Tn_holds 26 = .ok (.iload_n 3, 1) := by decide +kernel
theorem d_Tn_holds_27 : decode b_Tn_holds 27 = .ok (.iconst 1, 1) := by decide +kernel
theorem d_Tn_holds_28 : decode b_Tn_holds 28 = .ok (.ishl, 1) := by decide +kernel
theorem d_Tn_holds_29 : decode b_Tn_holds 29 = .ok (.aload_n 0, 1) := by decide +kernel
theorem d_Tn_holds_30 : decode b_Tn_holds 30 = .ok (.iload 5, 2) := by decide +kernel
theorem d_Tn_holds_32 : decode b_Tn_holds 32 = .ok (.iconst 3, 1) := by decide +kernel
theorem d_Tn_holds_33 : decode b_Tn_holds 33 = .ok (.isub, 1) := by decide +kernel
theorem d_Tn_holds_34 : decode b_Tn_holds 34 = .ok (.invokevirtual 104, 3) := by decide +kernel
theorem d_Tn_holds_37 : decode b_Tn_holds 37 = .ok (.ifCond .eq 7, 3) := by decide +kernel
theorem d_Tn_holds_40 : decode b_Tn_holds 40 = .ok (.iconst 1, 1) := by decide +kernel
theorem d_Tn_holds_41 : decode b_Tn_holds 41 = .ok (.goto 4, 3) := by decide +kernel
theorem d_Tn_holds_44 : decode b_Tn_holds 44 = .ok (.iconst 0, 1) := by decide +kernel
theorem d_Tn_holds_45 : decode b_Tn_holds 45 = .ok (.ior, 1) := by decide +kernel
theorem d_Tn_holds_46 : decode b_Tn_holds 46 = .ok (.istore_n 3, 1) := by decide +kernel
theorem d_Tn_holds_47 : decode b_Tn_holds 47 = .ok (.goto 48, 3) := by decide +kernel
theorem d_Tn_holds_50 : decode b_Tn_holds 50 = .ok (.iload 5, 2) := by decide +kernel
theorem d_Tn_holds_52 : decode b_Tn_holds 52 = .ok (.iconst 2, 1) := by decide +kernel
theorem d_Tn_holds_53 : decode b_Tn_holds 53 = .ok (.if_icmp .ne 10, 3) := by decide +kernel
theorem d_Tn_holds_56 : decode b_Tn_holds 56 = .ok (.iload_n 3, 1) := by decide +kernel
theorem d_Tn_holds_57 : decode b_Tn_holds 57 = .ok (.iconst 1, 1) := by decide +kernel
theorem d_Tn_holds_58 : decode b_Tn_holds 58 = .ok (.ixor, 1) := by decide +kernel
theorem d_Tn_holds_59 : decode b_Tn_holds 59 = .ok (.istore_n 3, 1) := by decide +kernel
theorem d_Tn_holds_60 : decode b_Tn_holds 60 = .ok (.goto 35, 3) := by decide +kernel
theorem d_Tn_holds_63 : decode b_Tn_holds 63 = .ok (.iload_n 3, 1) := by decide +kernel
theorem d_Tn_holds_64 : decode b_Tn_holds 64 = .ok (.iconst 1, 1) := by decide +kernel
theorem d_Tn_holds_65 : decode b_Tn_holds 65 = .ok (.iand, 1) := by decide +kernel
theorem d_Tn_holds_66 : decode b_Tn_holds 66 = .ok (.istore 6, 2) := by decide +kernel
theorem d_Tn_holds_68 : decode b_Tn_holds 68 = .ok (.iload_n 3, 1) := by decide +kernel
theorem d_Tn_holds_69 : decode b_Tn_holds 69 = .ok (.iconst 1, 1) := by decide +kernel
theorem d_Tn_holds_70 : decode b_Tn_holds 70 = .ok (.iushr, 1) := by decide +kernel
theorem d_Tn_holds_71 : decode b_Tn_holds 71 = .ok (.istore_n 3, 1) := by decide +kernel
theorem d_Tn_holds_72 : decode b_Tn_holds 72 = .ok (.iload 5, 2) := by decide +kernel
theorem d_Tn_holds_74 : decode b_Tn_holds 74 = .ok (.ifCond .ne 11, 3) := by decide +kernel
theorem d_Tn_holds_77 : decode b_Tn_holds 77 = .ok (.iload_n 3, 1) := by decide +kernel
theorem d_Tn_holds_78 : decode b_Tn_holds 78 = .ok (.iload 6, 2) := by decide +kernel
theorem d_Tn_holds_80 : decode b_Tn_holds 80 = .ok (.ior, 1) := by decide +kernel
theorem d_Tn_holds_81 : decode b_Tn_holds 81 = .ok (.istore_n 3, 1) := by decide +kernel
theorem d_Tn_holds_82 : decode b_Tn_holds 82 = .ok (.goto 13, 3) := by decide +kernel
theorem d_Tn_holds_85 : decode b_Tn_holds 85 = .ok (.iload 6, 2) := by decide +kernel
theorem d_Tn_holds_87 : decode b_Tn_holds 87 = .ok (.ifCond .ne 8, 3) := by decide +kernel
theorem d_Tn_holds_90 : decode b_Tn_holds 90 = .ok (.iload_n 3, 1) := by decide +kernel
theorem d_Tn_holds_91 : decode b_Tn_holds 91 = .ok (.bipush (-2), 2) := by decide +kernel
theorem d_Tn_holds_93 : decode b_Tn_holds 93 = .ok (.iand, 1) := by decide +kernel
theorem d_Tn_holds_94 : decode b_Tn_holds 94 = .ok (.istore_n 3, 1) := by decide +kernel
theorem d_Tn_holds_95 : decode b_Tn_holds 95 = .ok (.iinc 4 1, 3) := by decide +kernel
theorem d_Tn_holds_98 : decode b_Tn_holds 98 = .ok (.goto (-93), 3) := by decide +kernel
theorem d_Tn_holds_101 : decode b_Tn_holds 101 = .ok (.iload_n 3, 1) := by decide +kernel
theorem d_Tn_holds_102 : decode b_Tn_holds 102 = .ok (.iconst 1, 1) := by decide +kernel
theorem d_Tn_holds_103 : decode b_Tn_holds 103 = .ok (.iand, 1) := by decide +kernel
theorem d_Tn_holds_104 : decode b_Tn_holds 104 = .ok (.ifCond .eq 7, 3) := by decide +kernel
theorem d_Tn_holds_107 : decode b_Tn_holds 107 = .ok (.iconst 1, 1) := by decide +kernel
theorem d_Tn_holds_108 : decode b_Tn_holds 108 = .ok (.goto 4, 3) := by decide +kernel
theorem d_Tn_holds_111 : decode b_Tn_holds 111 = .ok (.iconst 0, 1) := by decide +kernel
theorem d_Tn_holds_112 : decode b_Tn_holds 112 = .ok (.ireturn, 1) := by decide +kernel
set_option maxRecDepth 20000 in
theorem c_Tn_holds_b5 {r : Int32} {wz : gW} {rec5 : Nat × Int32 × Int32 × Int32 × gW → Option (Int32 × gW)} (ih5 : ∀ (a0 : Nat) (a2 : Int32) (a3 : Int32) (a4 : Int32) (w : gW) (ls : Array Slot) (H : Heap) (locs : List Loc), rec5 (a0, a2, a3, a4, w) = some (r, wz) → lv_has ls 7 [(0, .ref (B + a0)), (2, .int a2), (3, .int a3), (4, .int a4)] → gRep D cA B w H → va_S (gA B) s.heap H locs → W p l e ({ frames := 2, cells := 0, slots := 0, locals := 63 } : Room) s m args below meth c H locs 0 0 (MQ below (gQi D cA B r wz) args s 0 0 (gA B)) (F0 m 5 ls [])) (C : gC p s m args meth c "RidCoppers$Town" b_Tn_holds 7 (some .boolean) D cA oc B) (a0 : Nat) (a2 : Int32) (a3 : Int32) (a4 : Int32) (w : gW) {ls : Array Slot} {H : Heap} {locs : List Loc} (hl : lv_has ls 7 [(0, .ref (B + a0)), (2, .int a2), (3, .int a3), (4, .int a4)]) (hf : f_Tn_holds_b5 N rec5 a0 a2 a3 a4 w = some (r, wz)) (hR : gRep D cA B w H) (hS : va_S (gA B) s.heap H locs) : W p l e ({ frames := 2, cells := 0, slots := 0, locals := 63 } : Room) s m args below meth c H locs 0 0 (MQ below (gQi D cA B r wz) args s 0 0 (gA B)) (F0 m 5 ls []) := by
  obtain ⟨hx, hb, hml, hown, hts, hr, hlocks, hK, hBs⟩ := id C
  unfold f_Tn_holds_b5 at hf
  refine lv_iload hx hb d_Tn_holds_5 (lv_at hl 3 rfl) ?_
  refine lv_iload_n hx hb d_Tn_holds_7 rfl (lv_at hl 1 rfl) ?_
  refine lv_icmp_ge (tgt := 101) hx hb d_Tn_holds_8 (by decide) (fun hc => ?_) (fun hc => ?_)
  · have hf := cd_t hc hf
    refine lv_iload_n hx hb d_Tn_holds_101 rfl (lv_at hl 2 rfl) ?_
    refine lv_iconst (v := 1) hx hb d_Tn_holds_102 (by decide) ?_
    refine lv_iand hx hb d_Tn_holds_103 ?_
    refine g_nI hf (fun x1 hf => ?_)
    refine lv_if_eq (tgt := 111) hx hb d_Tn_holds_104 (by decide) (fun hc => ?_) (fun hc => ?_)
    · have hf := cd_t hc hf
      refine lv_iconst (v := 0) hx hb d_Tn_holds_111 (by decide) ?_
      exact g_iret hx hb hr hlocks hR hS hf rfl d_Tn_holds_112
    have hf := cd_f hc hf
    refine lv_iconst (v := 1) hx hb d_Tn_holds_107 (by decide) ?_
    refine lv_goto (tgt := 112) hx hb d_Tn_holds_108 (by decide) ?_
    exact g_iret hx hb hr hlocks hR hS hf rfl d_Tn_holds_112
  have hf := cd_f hc hf
  refine lv_aload_n hx hb d_Tn_holds_11 rfl (lv_at hl 0 rfl) ?_
  have ⟨h2, hf⟩ := gd_e hf
  have ⟨x3, h4, hf⟩ := rr_e hf
  refine g_getR hx hb hts hown hK hR fl_Tn_34 (fun _ => rfl) h2 h4 d_Tn_holds_12 ?_
  refine lv_iload hx hb d_Tn_holds_15 (lv_at hl 3 rfl) ?_
  have ⟨h5, hf⟩ := gd_e hf
  have ⟨h6, hf⟩ := gd_e hf
  refine g_iald hx hb hK hR h5 h6 d_Tn_holds_17 ?_
  refine g_nI hf (fun x7 hf => ?_)
  refine lv_istore (lv' := [(5, .int x7), (0, .ref (B + a0)), (2, .int a2), (3, .int a3), (4, .int a4)]) hx hb d_Tn_holds_18 hl (by decide) rfl (fun ls hl => ?_)
  refine lv_iload hx hb d_Tn_holds_20 (lv_at hl 0 rfl) ?_
  refine lv_iconst (v := 3) hx hb d_Tn_holds_22 (by decide) ?_
  refine lv_icmp_lt (tgt := 50) hx hb d_Tn_holds_23 (by decide) (fun hc => ?_) (fun hc => ?_)
  · have hf := cd_t hc hf
    refine lv_iload hx hb d_Tn_holds_50 (lv_at hl 0 rfl) ?_
    refine lv_iconst (v := 2) hx hb d_Tn_holds_52 (by decide) ?_
    refine lv_icmp_ne (tgt := 63) hx hb d_Tn_holds_53 (by decide) (fun hc => ?_) (fun hc => ?_)
    · have hf := cd_f hc hf
      refine lv_iload_n hx hb d_Tn_holds_63 rfl (lv_at hl 3 rfl) ?_
      refine lv_iconst (v := 1) hx hb d_Tn_holds_64 (by decide) ?_
      refine lv_iand hx hb d_Tn_holds_65 ?_
      refine g_nI hf (fun x8 hf => ?_)
      refine lv_istore (lv' := [(6, .int x8), (5, .int x7), (0, .ref (B + a0)), (2, .int a2), (3, .int a3), (4, .int a4)]) hx hb d_Tn_holds_66 hl (by decide) rfl (fun ls hl => ?_)
      refine lv_iload_n hx hb d_Tn_holds_68 rfl (lv_at hl 4 rfl) ?_
      refine lv_iconst (v := 1) hx hb d_Tn_holds_69 (by decide) ?_
      refine lv_iushr hx hb d_Tn_holds_70 rfl ?_
      refine g_nI hf (fun x9 hf => ?_)
      refine lv_istore_n (lv' := [(3, .int x9), (6, .int x8), (5, .int x7), (0, .ref (B + a0)), (2, .int a2), (4, .int a4)]) hx hb d_Tn_holds_71 rfl hl (by decide) rfl (fun ls hl => ?_)
      refine lv_iload hx hb d_Tn_holds_72 (lv_at hl 2 rfl) ?_
      refine lv_if_ne (tgt := 85) hx hb d_Tn_holds_74 (by decide) (fun hc => ?_) (fun hc => ?_)
      · have hf := cd_f hc hf
        refine lv_iload hx hb d_Tn_holds_85 (lv_at hl 1 rfl) ?_
        refine lv_if_ne (tgt := 95) hx hb d_Tn_holds_87 (by decide) (fun hc => ?_) (fun hc => ?_)
        · have hf := cd_f hc hf
          refine g_iinc (lv' := fun x10 => [(4, .int x10), (3, .int x9), (6, .int x8), (5, .int x7), (0, .ref (B + a0)), (2, .int a2)]) hf hx hb d_Tn_holds_95 hl (k := 5) rfl (by decide) (by decide) (fun _ => rfl) (fun x10 ls hf hl => ?_)
          refine lv_goto (tgt := 5) hx hb d_Tn_holds_98 (by decide) ?_
          exact ih5 a0 a2 x9 x10 w _ _ _ hf (lv_sub hl [4, 5, 1, 0] rfl) hR hS
        have hf := cd_t hc hf
        refine lv_iload_n hx hb d_Tn_holds_90 rfl (lv_at hl 0 rfl) ?_
        refine lv_bipush (v := (-2)) hx hb d_Tn_holds_91 (by decide) ?_
        refine lv_iand hx hb d_Tn_holds_93 ?_
        refine g_nI hf (fun x11 hf => ?_)
        refine lv_istore_n (lv' := [(3, .int x11), (6, .int x8), (5, .int x7), (0, .ref (B + a0)), (2, .int a2), (4, .int a4)]) hx hb d_Tn_holds_94 rfl hl (by decide) rfl (fun ls hl => ?_)
        refine g_iinc (lv' := fun x12 => [(4, .int x12), (3, .int x11), (6, .int x8), (5, .int x7), (0, .ref (B + a0)), (2, .int a2)]) hf hx hb d_Tn_holds_95 hl (k := 5) rfl (by decide) (by decide) (fun _ => rfl) (fun x12 ls hf hl => ?_)
        refine lv_goto (tgt := 5) hx hb d_Tn_holds_98 (by decide) ?_
        exact ih5 a0 a2 x11 x12 w _ _ _ hf (lv_sub hl [4, 5, 1, 0] rfl) hR hS
      have hf := cd_t hc hf
      refine lv_iload_n hx hb d_Tn_holds_77 rfl (lv_at hl 0 rfl) ?_
      refine lv_iload hx hb d_Tn_holds_78 (lv_at hl 1 rfl) ?_
      refine lv_ior hx hb d_Tn_holds_80 ?_
      refine g_nI hf (fun x13 hf => ?_)
      refine lv_istore_n (lv' := [(3, .int x13), (6, .int x8), (5, .int x7), (0, .ref (B + a0)), (2, .int a2), (4, .int a4)]) hx hb d_Tn_holds_81 rfl hl (by decide) rfl (fun ls hl => ?_)
      refine lv_goto (tgt := 95) hx hb d_Tn_holds_82 (by decide) ?_
      refine g_iinc (lv' := fun x14 => [(4, .int x14), (3, .int x13), (6, .int x8), (5, .int x7), (0, .ref (B + a0)), (2, .int a2)]) hf hx hb d_Tn_holds_95 hl (k := 5) rfl (by decide) (by decide) (fun _ => rfl) (fun x14 ls hf hl => ?_)
      refine lv_goto (tgt := 5) hx hb d_Tn_holds_98 (by decide) ?_
      exact ih5 a0 a2 x13 x14 w _ _ _ hf (lv_sub hl [4, 5, 1, 0] rfl) hR hS
    have hf := cd_t hc hf
    refine lv_iload_n hx hb d_Tn_holds_56 rfl (lv_at hl 3 rfl) ?_
    refine lv_iconst (v := 1) hx hb d_Tn_holds_57 (by decide) ?_
    refine lv_ixor hx hb d_Tn_holds_58 ?_
    refine g_nI hf (fun x15 hf => ?_)
    refine lv_istore_n (lv' := [(3, .int x15), (5, .int x7), (0, .ref (B + a0)), (2, .int a2), (4, .int a4)]) hx hb d_Tn_holds_59 rfl hl (by decide) rfl (fun ls hl => ?_)
    refine lv_goto (tgt := 95) hx hb d_Tn_holds_60 (by decide) ?_
    refine g_iinc (lv' := fun x16 => [(4, .int x16), (3, .int x15), (5, .int x7), (0, .ref (B + a0)), (2, .int a2)]) hf hx hb d_Tn_holds_95 hl (k := 4) rfl (by decide) (by decide) (fun _ => rfl) (fun x16 ls hf hl => ?_)
    refine lv_goto (tgt := 5) hx hb d_Tn_holds_98 (by decide) ?_
    exact ih5 a0 a2 x15 x16 w _ _ _ hf (lv_sub hl [3, 4, 1, 0] rfl) hR hS
  have hf := cd_f hc hf
  refine lv_iload_n hx hb d_Tn_holds_26 rfl (lv_at hl 3 rfl) ?_
  refine lv_iconst (v := 1) hx hb d_Tn_holds_27 (by decide) ?_
  refine lv_ishl hx hb d_Tn_holds_28 ?_
  refine g_nI hf (fun x17 hf => ?_)
  refine lv_aload_n hx hb d_Tn_holds_29 rfl (lv_at hl 1 rfl) ?_
  refine lv_iload hx hb d_Tn_holds_30 (lv_at hl 0 rfl) ?_
  refine lv_iconst (v := 3) hx hb d_Tn_holds_32 (by decide) ?_
  refine lv_isub hx hb d_Tn_holds_33 ?_
  refine g_nI hf (fun x18 hf => ?_)
  have ⟨x19, w20, h21, hf⟩ := kl_e hf
  refine g_ki0 (g_rV (As := [.int x18]) (rest := [.int x17]) hx hb hml hown hts hK hR hS (c_Tn_testHolds l D cA oc B N a0 x18 w h21) I_Tn_testHolds m_399 mp_4 (gRecv hK hR (ci := 7) rfl h2) rfl rfl (Nat.le_of_ble_eq_true rfl) hl.1 ⟨Nat.le_of_ble_eq_true rfl, Nat.le_of_ble_eq_true rfl⟩ ⟨Nat.le_of_ble_eq_true rfl, Nat.le_of_ble_eq_true rfl⟩ d_Tn_holds_34) hS (fun H locs hR hS => ?_)
  refine lv_if_eq (tgt := 44) hx hb d_Tn_holds_37 (by decide) (fun hc => ?_) (fun hc => ?_)
  · have hf := cd_t hc hf
    refine lv_iconst (v := 0) hx hb d_Tn_holds_44 (by decide) ?_
    refine lv_ior hx hb d_Tn_holds_45 ?_
    refine g_nI hf (fun x22 hf => ?_)
    refine lv_istore_n (lv' := [(3, .int x22), (5, .int x7), (0, .ref (B + a0)), (2, .int a2), (4, .int a4)]) hx hb d_Tn_holds_46 rfl hl (by decide) rfl (fun ls hl => ?_)
    refine lv_goto (tgt := 95) hx hb d_Tn_holds_47 (by decide) ?_
    refine g_iinc (lv' := fun x23 => [(4, .int x23), (3, .int x22), (5, .int x7), (0, .ref (B + a0)), (2, .int a2)]) hf hx hb d_Tn_holds_95 hl (k := 4) rfl (by decide) (by decide) (fun _ => rfl) (fun x23 ls hf hl => ?_)
    refine lv_goto (tgt := 5) hx hb d_Tn_holds_98 (by decide) ?_
    exact ih5 a0 a2 x22 x23 w20 _ _ _ hf (lv_sub hl [3, 4, 1, 0] rfl) hR hS
  have hf := cd_f hc hf
  refine lv_iconst (v := 1) hx hb d_Tn_holds_40 (by decide) ?_
  refine lv_goto (tgt := 45) hx hb d_Tn_holds_41 (by decide) ?_
  refine lv_ior hx hb d_Tn_holds_45 ?_
  refine g_nI hf (fun x24 hf => ?_)
  refine lv_istore_n (lv' := [(3, .int x24), (5, .int x7), (0, .ref (B + a0)), (2, .int a2), (4, .int a4)]) hx hb d_Tn_holds_46 rfl hl (by decide) rfl (fun ls hl => ?_)
  refine lv_goto (tgt := 95) hx hb d_Tn_holds_47 (by decide) ?_
  refine g_iinc (lv' := fun x25 => [(4, .int x25), (3, .int x24), (5, .int x7), (0, .ref (B + a0)), (2, .int a2)]) hf hx hb d_Tn_holds_95 hl (k := 4) rfl (by decide) (by decide) (fun _ => rfl) (fun x25 ls hf hl => ?_)
  refine lv_goto (tgt := 5) hx hb d_Tn_holds_98 (by decide) ?_
  exact ih5 a0 a2 x24 x25 w20 _ _ _ hf (lv_sub hl [3, 4, 1, 0] rfl) hR hS
theorem c_Tn_holds_l5 {r : Int32} {wz : gW} (C : gC p s m args meth c "RidCoppers$Town" b_Tn_holds 7 (some .boolean) D cA oc B) (a0 : Nat) (a2 : Int32) (a3 : Int32) (a4 : Int32) (w : gW) {ls : Array Slot} {H : Heap} {locs : List Loc} (hl : lv_has ls 7 [(0, .ref (B + a0)), (2, .int a2), (3, .int a3), (4, .int a4)]) (hf : f_Tn_holds_l5 N a0 a2 a3 a4 w = some (r, wz)) (hR : gRep D cA B w H) (hS : va_S (gA B) s.heap H locs) : W p l e ({ frames := 2, cells := 0, slots := 0, locals := 63 } : Room) s m args below meth c H locs 0 0 (MQ below (gQi D cA B r wz) args s 0 0 (gA B)) (F0 m 5 ls []) := by
  unfold f_Tn_holds_l5 at hf
  suffices hh : ∀ n : Nat, ∀ (a0 : Nat) (a2 : Int32) (a3 : Int32) (a4 : Int32) (w : gW) (ls : Array Slot) (H : Heap) (locs : List Loc), itr (fun rec (q : Nat × Int32 × Int32 × Int32 × gW) => f_Tn_holds_b5 N rec q.1 q.2.1 q.2.2.1 q.2.2.2.1 q.2.2.2.2) n (a0, a2, a3, a4, w) = some (r, wz) → lv_has ls 7 [(0, .ref (B + a0)), (2, .int a2), (3, .int a3), (4, .int a4)] → gRep D cA B w H → va_S (gA B) s.heap H locs → W p l e ({ frames := 2, cells := 0, slots := 0, locals := 63 } : Room) s m args below meth c H locs 0 0 (MQ below (gQi D cA B r wz) args s 0 0 (gA B)) (F0 m 5 ls []) from hh N a0 a2 a3 a4 w ls H locs hf hl hR hS
  intro n
  induction n with
  | zero => intro a0 a2 a3 a4 w ls H locs hf; cases hf
  | succ n ihn =>
    intro a0 a2 a3 a4 w ls H locs hf hl hR hS
    exact c_Tn_holds_b5 (N := N) ihn C a0 a2 a3 a4 w hl ((itr_s _ _ _).symm.trans hf) hR hS
set_option maxRecDepth 20000 in
theorem c_Tn_holds_b0 {r : Int32} {wz : gW} (C : gC p s m args meth c "RidCoppers$Town" b_Tn_holds 7 (some .boolean) D cA oc B) (a0 : Nat) (a1 : Int32) (a2 : Int32) (w : gW) {ls : Array Slot} {H : Heap} {locs : List Loc} (hl : lv_has ls 7 [(0, .ref (B + a0)), (1, .int a1), (2, .int a2)]) (hf : f_Tn_holds_b0 N a0 a1 a2 w = some (r, wz)) (hR : gRep D cA B w H) (hS : va_S (gA B) s.heap H locs) : W p l e ({ frames := 2, cells := 0, slots := 0, locals := 63 } : Room) s m args below meth c H locs 0 0 (MQ below (gQi D cA B r wz) args s 0 0 (gA B)) (F0 m 0 ls []) := by
  obtain ⟨hx, hb, hml, hown, hts, hr, hlocks, hK, hBs⟩ := id C
  unfold f_Tn_holds_b0 at hf
  refine lv_iconst (v := 0) hx hb d_Tn_holds_0 (by decide) ?_
  refine lv_istore_n (lv' := [(3, .int 0), (0, .ref (B + a0)), (1, .int a1), (2, .int a2)]) hx hb d_Tn_holds_1 rfl hl (by decide) rfl (fun ls hl => ?_)
  refine lv_iload_n hx hb d_Tn_holds_2 rfl (lv_at hl 2 rfl) ?_
  refine lv_istore (lv' := [(4, .int a1), (3, .int 0), (0, .ref (B + a0)), (1, .int a1), (2, .int a2)]) hx hb d_Tn_holds_3 hl (by decide) rfl (fun ls hl => ?_)
  exact c_Tn_holds_l5 C a0 a2 0 a1 w (lv_sub hl [2, 4, 1, 0] rfl) hf hR hS
theorem c_Tn_holds (l : Launch) (D : va_G) (cA : Nat → ClassId) (oc : gO) (B N : Nat) (a0 : Nat) (a1 : Int32) (a2 : Int32) (w : gW) {wz : gW} {r : Int32} (hf : f_Tn_holds N a0 a1 a2 w = some (r, wz)) : Met l y_Tn_holds (Cond.code y_Tn_holds b_Tn_holds 7 (some .boolean) :: lw_good) ({ frames := 2, cells := 0, slots := 0, locals := 63 } : Room) (gPre D cA oc B [.ref (B + a0), .int a1, .int a2] w) (gQi D cA B r wz) 0 0 (gA B) := by
  refine Met.ofW (cc := b_Tn_holds) (maxL := 7) (ret := (some .boolean)) (by decide +kernel) rfl ?_
  intro p e s m args below meth c s₁ Bd hml hv
  obtain ⟨hargs, C, hR⟩ := gC.enter (l := l) rfl Bd hml hv
  subst hargs
  have hl := lv_entry ([.ref (B + a0), .int a1, .int a2]) (n := 7) (Nat.le_of_ble_eq_true rfl)
  rw [lg_entry_eq]
  generalize (lg_sl ([.ref (B + a0), .int a1, .int a2]) ++ List.replicate (7 - (lg_sl ([.ref (B + a0), .int a1, .int a2])).length) Slot.unset).toArray = ls at hl ⊢
  have hl : lv_has ls 7 [(0, .ref (B + a0)), (1, .int a1), (2, .int a2)] := hl
  exact c_Tn_holds_b0 C a0 a1 a2 w (lv_sub hl [0, 1, 2] rfl) hf hR va_S.rf
theorem d_Tn_together_0 : decode b_Tn_together 0 = .ok (.iconst 0, 1) := by decide +kernel
theorem d_Tn_together_1 : decode b_Tn_together 1 = .ok (.istore_n 2, 1) := by decide +kernel
theorem d_Tn_together_2 : decode b_Tn_together 2 = .ok (.iconst 0, 1) := by decide +kernel
theorem d_Tn_together_3 : decode b_Tn_together 3 = .ok (.istore_n 3, 1) := by decide +kernel
theorem d_Tn_together_4 : decode b_Tn_together 4 = .ok (.iload_n 3, 1) := by decide +kernel
theorem d_Tn_together_5 : decode b_Tn_together 5 = .ok (.aload_n 0, 1) := by decide +kernel
theorem d_Tn_together_6 : decode b_Tn_together 6 = .ok (.getfield 31, 3) := by decide +kernel
theorem d_Tn_together_9 : decode b_Tn_together 9 = .ok (.if_icmp .ge 47, 3) := by decide +kernel
theorem d_Tn_together_12 : decode b_Tn_together 12 = .ok (.aload_n 0, 1) := by decide +kernel
theorem d_Tn_together_13 : decode b_Tn_together 13 = .ok (.getfield 19, 3) := by decide +kernel
theorem d_Tn_together_16 : decode b_Tn_together 16 = .ok (.iload_n 3, 1) := by decide +kernel
theorem d_Tn_together_17 : decode b_Tn_together 17 = .ok (.iaload, 1) := by decide +kernel
theorem d_Tn_together_18 : decode b_Tn_together 18 = .ok (.iload_n 1, 1) := by decide +kernel
theorem d_Tn_together_19 : decode b_Tn_together 19 = .ok (.if_icmp .ne 31, 3) := by decide +kernel
theorem d_Tn_together_22 : decode b_Tn_together 22 = .ok (.aload_n 0, 1) := by decide +kernel
theorem d_Tn_together_23 : decode b_Tn_together 23 = .ok (.aload_n 0, 1) := by decide +kernel
theorem d_Tn_together_24 : decode b_Tn_together 24 = .ok (.getfield 25, 3) := by decide +kernel
theorem d_Tn_together_27 : decode b_Tn_together 27 = .ok (.iload_n 3, 1) := by decide +kernel
theorem d_Tn_together_28 : decode b_Tn_together 28 = .ok (.iaload, 1) := by decide +kernel
theorem d_Tn_together_29 : decode b_Tn_together 29 = .ok (.aload_n 0, 1) := by decide +kernel
theorem d_Tn_together_30 : decode b_Tn_together 30 = .ok (.getfield 28, 3) := by decide +kernel
theorem d_Tn_together_33 : decode b_Tn_together 33 = .ok (.iload_n 3, 1) := by decide +kernel
theorem d_Tn_together_34 : decode b_Tn_together 34 = .ok (.iaload, 1) := by decide +kernel
theorem d_Tn_together_35 : decode b_Tn_together 35 = .ok (.invokevirtual 100, 3) := by decide +kernel
theorem d_Tn_together_38 : decode b_Tn_together 38 = .ok (.ifCond .eq 12, 3) := by decide +kernel
theorem d_Tn_together_41 : decode b_Tn_together 41 = .ok (.iload_n 2, 1) := by decide +kernel
theorem d_Tn_together_42 : decode b_Tn_together 42 = .ok (.aload_n 0, 1) := by decide +kernel
theorem d_Tn_together_43 : decode b_Tn_together 43 = .ok (.getfield 22, 3) := by decide +kernel
theorem d_Tn_together_46 : decode b_Tn_together 46 = .ok (.iload_n 3, 1) := by decide +kernel
theorem d_Tn_together_47 : decode b_Tn_together 47 = .ok (.iaload, 1) := by decide +kernel
theorem d_Tn_together_48 : decode b_Tn_together 48 = .ok (.iadd, 1) := by decide +kernel
theorem d_Tn_together_49 : decode b_Tn_together 49 = .ok (.istore_n 2, 1) := by decide +kernel
theorem d_Tn_together_50 : decode b_Tn_together 50 = .ok (.iinc 3 1, 3) := by decide +kernel
theorem d_Tn_together_53 : decode b_Tn_together 53 = .ok (.goto (-49), 3) := by decide +kernel
theorem d_Tn_together_56 : decode b_Tn_together 56 = .ok (.iload_n 2, 1) := by decide +kernel
theorem d_Tn_together_57 : decode b_Tn_together 57 = .ok (.ireturn, 1) := by decide +kernel
set_option maxRecDepth 20000 in
theorem c_Tn_together_b4 {r : Int32} {wz : gW} {rec4 : Nat × Int32 × Int32 × Int32 × gW → Option (Int32 × gW)} (ih4 : ∀ (a0 : Nat) (a1 : Int32) (a2 : Int32) (a3 : Int32) (w : gW) (ls : Array Slot) (H : Heap) (locs : List Loc), rec4 (a0, a1, a2, a3, w) = some (r, wz) → lv_has ls 4 [(0, .ref (B + a0)), (1, .int a1), (2, .int a2), (3, .int a3)] → gRep D cA B w H → va_S (gA B) s.heap H locs → W p l e ({ frames := 3, cells := 0, slots := 0, locals := 89 } : Room) s m args below meth c H locs 0 0 (MQ below (gQi D cA B r wz) args s 0 0 (gA B)) (F0 m 4 ls [])) (C : gC p s m args meth c "RidCoppers$Town" b_Tn_together 4 (some .int) D cA oc B) (a0 : Nat) (a1 : Int32) (a2 : Int32) (a3 : Int32) (w : gW) {ls : Array Slot} {H : Heap} {locs : List Loc} (hl : lv_has ls 4 [(0, .ref (B + a0)), (1, .int a1), (2, .int a2), (3, .int a3)]) (hf : f_Tn_together_b4 N rec4 a0 a1 a2 a3 w = some (r, wz)) (hR : gRep D cA B w H) (hS : va_S (gA B) s.heap H locs) : W p l e ({ frames := 3, cells := 0, slots := 0, locals := 89 } : Room) s m args below meth c H locs 0 0 (MQ below (gQi D cA B r wz) args s 0 0 (gA B)) (F0 m 4 ls []) := by
  obtain ⟨hx, hb, hml, hown, hts, hr, hlocks, hK, hBs⟩ := id C
  unfold f_Tn_together_b4 at hf
  refine lv_iload_n hx hb d_Tn_together_4 rfl (lv_at hl 3 rfl) ?_
  refine lv_aload_n hx hb d_Tn_together_5 rfl (lv_at hl 0 rfl) ?_
  have ⟨h1, hf⟩ := gd_e hf
  refine g_getI hx hb hts hown hK hR fl_Tn_31 (fun _ => rfl) h1 d_Tn_together_6 ?_
  refine g_nI hf (fun x2 hf => ?_)
  refine lv_icmp_ge (tgt := 56) hx hb d_Tn_together_9 (by decide) (fun hc => ?_) (fun hc => ?_)
  · have hf := cd_t hc hf
    refine lv_iload_n hx hb d_Tn_together_56 rfl (lv_at hl 2 rfl) ?_
    exact g_iret hx hb hr hlocks hR hS hf rfl d_Tn_together_57
  have hf := cd_f hc hf
  refine lv_aload_n hx hb d_Tn_together_12 rfl (lv_at hl 0 rfl) ?_
  have ⟨x3, h4, hf⟩ := rr_e hf
  refine g_getR hx hb hts hown hK hR fl_Tn_19 (fun _ => rfl) h1 h4 d_Tn_together_13 ?_
  refine lv_iload_n hx hb d_Tn_together_16 rfl (lv_at hl 3 rfl) ?_
  have ⟨h5, hf⟩ := gd_e hf
  have ⟨h6, hf⟩ := gd_e hf
  refine g_iald hx hb hK hR h5 h6 d_Tn_together_17 ?_
  refine g_nI hf (fun x7 hf => ?_)
  refine lv_iload_n hx hb d_Tn_together_18 rfl (lv_at hl 1 rfl) ?_
  refine lv_icmp_ne (tgt := 50) hx hb d_Tn_together_19 (by decide) (fun hc => ?_) (fun hc => ?_)
  · have hf := cd_f hc hf
    refine g_iinc (lv' := fun x8 => [(3, .int x8), (0, .ref (B + a0)), (1, .int a1), (2, .int a2)]) hf hx hb d_Tn_together_50 hl (k := 3) rfl (by decide) (by decide) (fun _ => rfl) (fun x8 ls hf hl => ?_)
    refine lv_goto (tgt := 4) hx hb d_Tn_together_53 (by decide) ?_
    exact ih4 a0 a1 a2 x8 w _ _ _ hf (lv_sub hl [1, 2, 3, 0] rfl) hR hS
  have hf := cd_t hc hf
  refine lv_aload_n hx hb d_Tn_together_22 rfl (lv_at hl 0 rfl) ?_
  refine lv_aload_n hx hb d_Tn_together_23 rfl (lv_at hl 0 rfl) ?_
  have ⟨x9, h10, hf⟩ := rr_e hf
  refine g_getR hx hb hts hown hK hR fl_Tn_25 (fun _ => rfl) h1 h10 d_Tn_together_24 ?_
  refine lv_iload_n hx hb d_Tn_together_27 rfl (lv_at hl 3 rfl) ?_
  have ⟨h11, hf⟩ := gd_e hf
  have ⟨h12, hf⟩ := gd_e hf
  refine g_iald hx hb hK hR h11 h12 d_Tn_together_28 ?_
  refine g_nI hf (fun x13 hf => ?_)
  refine lv_aload_n hx hb d_Tn_together_29 rfl (lv_at hl 0 rfl) ?_
  have ⟨x14, h15, hf⟩ := rr_e hf
  refine g_getR hx hb hts hown hK hR fl_Tn_28 (fun _ => rfl) h1 h15 d_Tn_together_30 ?_
  refine lv_iload_n hx hb d_Tn_together_33 rfl (lv_at hl 3 rfl) ?_
  have ⟨h16, hf⟩ := gd_e hf
  have ⟨h17, hf⟩ := gd_e hf
  refine g_iald hx hb hK hR h16 h17 d_Tn_together_34 ?_
  refine g_nI hf (fun x18 hf => ?_)
  have ⟨x19, w20, h21, hf⟩ := kl_e hf
  refine g_ki0 (g_rV (As := [.int x13, .int x18]) (rest := []) hx hb hml hown hts hK hR hS (c_Tn_holds l D cA oc B N a0 x13 x18 w h21) I_Tn_holds m_395 mp_3 (gRecv hK hR (ci := 7) rfl h1) rfl rfl (Nat.le_of_ble_eq_true rfl) hl.1 ⟨Nat.le_of_ble_eq_true rfl, Nat.le_of_ble_eq_true rfl⟩ ⟨Nat.le_of_ble_eq_true rfl, Nat.le_of_ble_eq_true rfl⟩ d_Tn_together_35) hS (fun H locs hR hS => ?_)
  refine lv_if_eq (tgt := 50) hx hb d_Tn_together_38 (by decide) (fun hc => ?_) (fun hc => ?_)
  · have hf := cd_t hc hf
    refine g_iinc (lv' := fun x22 => [(3, .int x22), (0, .ref (B + a0)), (1, .int a1), (2, .int a2)]) hf hx hb d_Tn_together_50 hl (k := 3) rfl (by decide) (by decide) (fun _ => rfl) (fun x22 ls hf hl => ?_)
    refine lv_goto (tgt := 4) hx hb d_Tn_together_53 (by decide) ?_
    exact ih4 a0 a1 a2 x22 w20 _ _ _ hf (lv_sub hl [1, 2, 3, 0] rfl) hR hS
  have hf := cd_f hc hf
  refine lv_iload_n hx hb d_Tn_together_41 rfl (lv_at hl 2 rfl) ?_
  refine lv_aload_n hx hb d_Tn_together_42 rfl (lv_at hl 0 rfl) ?_
  have ⟨h23, hf⟩ := gd_e hf
  have ⟨x24, h25, hf⟩ := rr_e hf
  refine g_getR hx hb hts hown hK hR fl_Tn_22 (fun _ => rfl) h23 h25 d_Tn_together_43 ?_
  refine lv_iload_n hx hb d_Tn_together_46 rfl (lv_at hl 3 rfl) ?_
  have ⟨h26, hf⟩ := gd_e hf
  have ⟨h27, hf⟩ := gd_e hf
  refine g_iald hx hb hK hR h26 h27 d_Tn_together_47 ?_
  refine g_nI hf (fun x28 hf => ?_)
  refine lv_iadd hx hb d_Tn_together_48 ?_
  refine g_nI hf (fun x29 hf => ?_)
  refine lv_istore_n (lv' := [(2, .int x29), (0, .ref (B + a0)), (1, .int a1), (3, .int a3)]) hx hb d_Tn_together_49 rfl hl (by decide) rfl (fun ls hl => ?_)
  refine g_iinc (lv' := fun x30 => [(3, .int x30), (2, .int x29), (0, .ref (B + a0)), (1, .int a1)]) hf hx hb d_Tn_together_50 hl (k := 3) rfl (by decide) (by decide) (fun _ => rfl) (fun x30 ls hf hl => ?_)
  refine lv_goto (tgt := 4) hx hb d_Tn_together_53 (by decide) ?_
  exact ih4 a0 a1 x29 x30 w20 _ _ _ hf (lv_sub hl [2, 3, 1, 0] rfl) hR hS
theorem c_Tn_together_l4 {r : Int32} {wz : gW} (C : gC p s m args meth c "RidCoppers$Town" b_Tn_together 4 (some .int) D cA oc B) (a0 : Nat) (a1 : Int32) (a2 : Int32) (a3 : Int32) (w : gW) {ls : Array Slot} {H : Heap} {locs : List Loc} (hl : lv_has ls 4 [(0, .ref (B + a0)), (1, .int a1), (2, .int a2), (3, .int a3)]) (hf : f_Tn_together_l4 N a0 a1 a2 a3 w = some (r, wz)) (hR : gRep D cA B w H) (hS : va_S (gA B) s.heap H locs) : W p l e ({ frames := 3, cells := 0, slots := 0, locals := 89 } : Room) s m args below meth c H locs 0 0 (MQ below (gQi D cA B r wz) args s 0 0 (gA B)) (F0 m 4 ls []) := by
  unfold f_Tn_together_l4 at hf
  suffices hh : ∀ n : Nat, ∀ (a0 : Nat) (a1 : Int32) (a2 : Int32) (a3 : Int32) (w : gW) (ls : Array Slot) (H : Heap) (locs : List Loc), itr (fun rec (q : Nat × Int32 × Int32 × Int32 × gW) => f_Tn_together_b4 N rec q.1 q.2.1 q.2.2.1 q.2.2.2.1 q.2.2.2.2) n (a0, a1, a2, a3, w) = some (r, wz) → lv_has ls 4 [(0, .ref (B + a0)), (1, .int a1), (2, .int a2), (3, .int a3)] → gRep D cA B w H → va_S (gA B) s.heap H locs → W p l e ({ frames := 3, cells := 0, slots := 0, locals := 89 } : Room) s m args below meth c H locs 0 0 (MQ below (gQi D cA B r wz) args s 0 0 (gA B)) (F0 m 4 ls []) from hh N a0 a1 a2 a3 w ls H locs hf hl hR hS
  intro n
  induction n with
  | zero => intro a0 a1 a2 a3 w ls H locs hf; cases hf
  | succ n ihn =>
    intro a0 a1 a2 a3 w ls H locs hf hl hR hS
    exact c_Tn_together_b4 (N := N) ihn C a0 a1 a2 a3 w hl ((itr_s _ _ _).symm.trans hf) hR hS
set_option maxRecDepth 20000 in
theorem c_Tn_together_b0 {r : Int32} {wz : gW} (C : gC p s m args meth c "RidCoppers$Town" b_Tn_together 4 (some .int) D cA oc B) (a0 : Nat) (a1 : Int32) (w : gW) {ls : Array Slot} {H : Heap} {locs : List Loc} (hl : lv_has ls 4 [(0, .ref (B + a0)), (1, .int a1)]) (hf : f_Tn_together_b0 N a0 a1 w = some (r, wz)) (hR : gRep D cA B w H) (hS : va_S (gA B) s.heap H locs) : W p l e ({ frames := 3, cells := 0, slots := 0, locals := 89 } : Room) s m args below meth c H locs 0 0 (MQ below (gQi D cA B r wz) args s 0 0 (gA B)) (F0 m 0 ls []) := by
  obtain ⟨hx, hb, hml, hown, hts, hr, hlocks, hK, hBs⟩ := id C
  unfold f_Tn_together_b0 at hf
  refine lv_iconst (v := 0) hx hb d_Tn_together_0 (by decide) ?_
  refine lv_istore_n (lv' := [(2, .int 0), (0, .ref (B + a0)), (1, .int a1)]) hx hb d_Tn_together_1 rfl hl (by decide) rfl (fun ls hl => ?_)
  refine lv_iconst (v := 0) hx hb d_Tn_together_2 (by decide) ?_
  refine lv_istore_n (lv' := [(3, .int 0), (2, .int 0), (0, .ref (B + a0)), (1, .int a1)]) hx hb d_Tn_together_3 rfl hl (by decide) rfl (fun ls hl => ?_)
  exact c_Tn_together_l4 C a0 a1 0 0 w (lv_sub hl [2, 3, 1, 0] rfl) hf hR hS
theorem c_Tn_together (l : Launch) (D : va_G) (cA : Nat → ClassId) (oc : gO) (B N : Nat) (a0 : Nat) (a1 : Int32) (w : gW) {wz : gW} {r : Int32} (hf : f_Tn_together N a0 a1 w = some (r, wz)) : Met l y_Tn_together (Cond.code y_Tn_together b_Tn_together 4 (some .int) :: lw_good) ({ frames := 3, cells := 0, slots := 0, locals := 89 } : Room) (gPre D cA oc B [.ref (B + a0), .int a1] w) (gQi D cA B r wz) 0 0 (gA B) := by
  refine Met.ofW (cc := b_Tn_together) (maxL := 4) (ret := (some .int)) (by decide +kernel) rfl ?_
  intro p e s m args below meth c s₁ Bd hml hv
  obtain ⟨hargs, C, hR⟩ := gC.enter (l := l) rfl Bd hml hv
  subst hargs
  have hl := lv_entry ([.ref (B + a0), .int a1]) (n := 4) (Nat.le_of_ble_eq_true rfl)
  rw [lg_entry_eq]
  generalize (lg_sl ([.ref (B + a0), .int a1]) ++ List.replicate (4 - (lg_sl ([.ref (B + a0), .int a1])).length) Slot.unset).toArray = ls at hl ⊢
  have hl : lv_has ls 4 [(0, .ref (B + a0)), (1, .int a1)] := hl
  exact c_Tn_together_b0 C a0 a1 w (lv_sub hl [0, 1] rfl) hf hR va_S.rf
theorem d_Tn_kept_0 : decode b_Tn_kept 0 = .ok (.aload_n 0, 1) := by decide +kernel
theorem d_Tn_kept_1 : decode b_Tn_kept 1 = .ok (.iload_n 3, 1) := by decide +kernel
theorem d_Tn_kept_2 : decode b_Tn_kept 2 = .ok (.invokevirtual 67, 3) := by decide +kernel
theorem d_Tn_kept_5 : decode b_Tn_kept 5 = .ok (.aload_n 0, 1) := by decide +kernel
theorem d_Tn_kept_6 : decode b_Tn_kept 6 = .ok (.getfield 40, 3) := by decide +kernel
theorem d_Tn_kept_9 : decode b_Tn_kept 9 = .ok (.iconst 2, 1) := by decide +kernel
theorem d_Tn_kept_10 : decode b_Tn_kept 10 = .ok (.aload_n 1, 1) := by decide +kernel
theorem d_Tn_kept_11 : decode b_Tn_kept 11 = .ok (.getfield 71, 3) := by decide +kernel
theorem d_Tn_kept_14 : decode b_Tn_kept 14 = .ok (.iload_n 3, 1) := by decide +kernel
theorem d_Tn_kept_15 : decode b_Tn_kept 15 = .ok (.iaload, 1) := by decide +kernel
theorem d_Tn_kept_16 : decode b_Tn_kept 16 = .ok (.iastore, 1) := by decide +kernel
theorem d_Tn_kept_17 : decode b_Tn_kept 17 = .ok (.aload_n 0, 1) := by decide +kernel
theorem d_Tn_kept_18 : decode b_Tn_kept 18 = .ok (.getfield 40, 3) := by decide +kernel
theorem d_Tn_kept_21 : decode b_Tn_kept 21 = .ok (.iconst 3, 1) := by decide +kernel
theorem d_Tn_kept_22 : decode b_Tn_kept 22 = .ok (.aload_n 2, 1) := by decide +kernel
theorem d_Tn_kept_23 : decode b_Tn_kept 23 = .ok (.getfield 76, 3) := by decide +kernel
theorem d_Tn_kept_26 : decode b_Tn_kept 26 = .ok (.iastore, 1) := by decide +kernel
theorem d_Tn_kept_27 : decode b_Tn_kept 27 = .ok (.aload_n 0, 1) := by decide +kernel
theorem d_Tn_kept_28 : decode b_Tn_kept 28 = .ok (.getfield 40, 3) := by decide +kernel
theorem d_Tn_kept_31 : decode b_Tn_kept 31 = .ok (.iconst 4, 1) := by decide +kernel
theorem d_Tn_kept_32 : decode b_Tn_kept 32 = .ok (.aload_n 2, 1) := by decide +kernel
theorem d_Tn_kept_33 : decode b_Tn_kept 33 = .ok (.getfield 81, 3) := by decide +kernel
theorem d_Tn_kept_36 : decode b_Tn_kept 36 = .ok (.iastore, 1) := by decide +kernel
theorem d_Tn_kept_37 : decode b_Tn_kept 37 = .ok (.aload_n 0, 1) := by decide +kernel
theorem d_Tn_kept_38 : decode b_Tn_kept 38 = .ok (.getfield 40, 3) := by decide +kernel
theorem d_Tn_kept_41 : decode b_Tn_kept 41 = .ok (.iconst 5, 1) := by decide +kernel
theorem d_Tn_kept_42 : decode b_Tn_kept 42 = .ok (.aload_n 1, 1) := by decide +kernel
theorem d_Tn_kept_43 : decode b_Tn_kept 43 = .ok (.getfield 84, 3) := by decide +kernel
theorem d_Tn_kept_46 : decode b_Tn_kept 46 = .ok (.aload_n 2, 1) := by decide +kernel
theorem d_Tn_kept_47 : decode b_Tn_kept 47 = .ok (.getfield 76, 3) := by decide +kernel
theorem d_Tn_kept_50 : decode b_Tn_kept 50 = .ok (.iaload, 1) := by decide +kernel
theorem d_Tn_kept_51 : decode b_Tn_kept 51 = .ok (.bipush 7, 2) := by decide +kernel
theorem d_Tn_kept_53 : decode b_Tn_kept 53 = .ok (.irem, 1) := by decide +kernel
theorem d_Tn_kept_54 : decode b_Tn_kept 54 = .ok (.iastore, 1) := by decide +kernel
theorem d_Tn_kept_55 : decode b_Tn_kept 55 = .ok (.aload_n 0, 1) := by decide +kernel
theorem d_Tn_kept_56 : decode b_Tn_kept 56 = .ok (.iconst 1, 1) := by decide +kernel
theorem d_Tn_kept_57 : decode b_Tn_kept 57 = .ok (.invokevirtual 87, 3) := by decide +kernel
theorem d_Tn_kept_60 : decode b_Tn_kept 60 = .ok (.ireturn, 1) := by decide +kernel
set_option maxRecDepth 20000 in
theorem c_Tn_kept_b0 {r : Int32} {wz : gW} (C : gC p s m args meth c "RidCoppers$Town" b_Tn_kept 4 (some .int) D cA oc B) (a0 : Nat) (a1 : Nat) (a2 : Nat) (a3 : Int32) (w : gW) {ls : Array Slot} {H : Heap} {locs : List Loc} (hl : lv_has ls 4 [(0, .ref (B + a0)), (1, .ref (B + a1)), (2, .ref (B + a2)), (3, .int a3)]) (hf : f_Tn_kept_b0 N a0 a1 a2 a3 w = some (r, wz)) (hR : gRep D cA B w H) (hS : va_S (gA B) s.heap H locs) : W p l e ({ frames := 4, cells := 0, slots := 0, locals := 112 } : Room) s m args below meth c H locs 0 0 (MQ below (gQi D cA B r wz) args s 0 0 (gA B)) (F0 m 0 ls []) := by
  obtain ⟨hx, hb, hml, hown, hts, hr, hlocks, hK, hBs⟩ := id C
  unfold f_Tn_kept_b0 at hf
  refine lv_aload_n hx hb d_Tn_kept_0 rfl (lv_at hl 0 rfl) ?_
  refine lv_iload_n hx hb d_Tn_kept_1 rfl (lv_at hl 3 rfl) ?_
  have ⟨h4, hf⟩ := gd_e hf
  have ⟨x1, w2, h3, hf⟩ := kl_e hf
  refine g_kv0 (g_rV (As := [.int a3]) (rest := []) hx hb hml hown hts hK hR hS (c_Tn_factsOf l D cA oc B N a0 a3 w h3) I_Tn_factsOf m_385 mp_1 (gRecv hK hR (ci := 7) rfl h4) rfl rfl (Nat.le_of_ble_eq_true rfl) hl.1 ⟨Nat.le_of_ble_eq_true rfl, Nat.le_of_ble_eq_true rfl⟩ ⟨Nat.le_of_ble_eq_true rfl, Nat.le_of_ble_eq_true rfl⟩ d_Tn_kept_2) hS (fun H locs hR hS => ?_)
  refine lv_aload_n hx hb d_Tn_kept_5 rfl (lv_at hl 0 rfl) ?_
  have ⟨h5, hf⟩ := gd_e hf
  have ⟨x6, h7, hf⟩ := rr_e hf
  refine g_getR hx hb hts hown hK hR fl_Tn_40 (fun _ => rfl) h5 h7 d_Tn_kept_6 ?_
  refine lv_iconst (v := 2) hx hb d_Tn_kept_9 (by decide) ?_
  refine lv_aload_n hx hb d_Tn_kept_10 rfl (lv_at hl 1 rfl) ?_
  have ⟨h8, hf⟩ := gd_e hf
  have ⟨x9, h10, hf⟩ := rr_e hf
  refine g_getR hx hb hts hown hK hR fl_Tn_71 (fun _ => rfl) h8 h10 d_Tn_kept_11 ?_
  refine lv_iload_n hx hb d_Tn_kept_14 rfl (lv_at hl 3 rfl) ?_
  have ⟨h11, hf⟩ := gd_e hf
  have ⟨h12, hf⟩ := gd_e hf
  refine g_iald hx hb hK hR h11 h12 d_Tn_kept_15 ?_
  refine g_nI hf (fun x13 hf => ?_)
  have ⟨h14, hf⟩ := gd_e hf
  have ⟨h15, hf⟩ := gd_e hf
  refine g_iast hx hb hK hR hS h14 h15 d_Tn_kept_16 (fun H locs hR hS => ?_)
  refine g_nW hf hR (fun w16 hf hR => ?_)
  refine lv_aload_n hx hb d_Tn_kept_17 rfl (lv_at hl 0 rfl) ?_
  have ⟨h17, hf⟩ := gd_e hf
  have ⟨x18, h19, hf⟩ := rr_e hf
  refine g_getR hx hb hts hown hK hR fl_Tn_40 (fun _ => rfl) h17 h19 d_Tn_kept_18 ?_
  refine lv_iconst (v := 3) hx hb d_Tn_kept_21 (by decide) ?_
  refine lv_aload_n hx hb d_Tn_kept_22 rfl (lv_at hl 2 rfl) ?_
  have ⟨h20, hf⟩ := gd_e hf
  refine g_getI hx hb hts hown hK hR (flP_Tn_76 _ h20) (payv h20) rfl d_Tn_kept_23 ?_
  refine g_nI hf (fun x21 hf => ?_)
  have ⟨h22, hf⟩ := gd_e hf
  have ⟨h23, hf⟩ := gd_e hf
  refine g_iast hx hb hK hR hS h22 h23 d_Tn_kept_26 (fun H locs hR hS => ?_)
  refine g_nW hf hR (fun w24 hf hR => ?_)
  refine lv_aload_n hx hb d_Tn_kept_27 rfl (lv_at hl 0 rfl) ?_
  have ⟨h25, hf⟩ := gd_e hf
  have ⟨x26, h27, hf⟩ := rr_e hf
  refine g_getR hx hb hts hown hK hR fl_Tn_40 (fun _ => rfl) h25 h27 d_Tn_kept_28 ?_
  refine lv_iconst (v := 4) hx hb d_Tn_kept_31 (by decide) ?_
  refine lv_aload_n hx hb d_Tn_kept_32 rfl (lv_at hl 2 rfl) ?_
  have ⟨h28, hf⟩ := gd_e hf
  refine g_getI hx hb hts hown hK hR (flP_Tn_81 _ h28) (payv h28) rfl d_Tn_kept_33 ?_
  refine g_nI hf (fun x29 hf => ?_)
  have ⟨h30, hf⟩ := gd_e hf
  have ⟨h31, hf⟩ := gd_e hf
  refine g_iast hx hb hK hR hS h30 h31 d_Tn_kept_36 (fun H locs hR hS => ?_)
  refine g_nW hf hR (fun w32 hf hR => ?_)
  refine lv_aload_n hx hb d_Tn_kept_37 rfl (lv_at hl 0 rfl) ?_
  have ⟨h33, hf⟩ := gd_e hf
  have ⟨x34, h35, hf⟩ := rr_e hf
  refine g_getR hx hb hts hown hK hR fl_Tn_40 (fun _ => rfl) h33 h35 d_Tn_kept_38 ?_
  refine lv_iconst (v := 5) hx hb d_Tn_kept_41 (by decide) ?_
  refine lv_aload_n hx hb d_Tn_kept_42 rfl (lv_at hl 1 rfl) ?_
  have ⟨h36, hf⟩ := gd_e hf
  have ⟨x37, h38, hf⟩ := rr_e hf
  refine g_getR hx hb hts hown hK hR fl_Tn_84 (fun _ => rfl) h36 h38 d_Tn_kept_43 ?_
  refine lv_aload_n hx hb d_Tn_kept_46 rfl (lv_at hl 2 rfl) ?_
  have ⟨h39, hf⟩ := gd_e hf
  refine g_getI hx hb hts hown hK hR (flP_Tn_76 _ h39) (payv h39) rfl d_Tn_kept_47 ?_
  refine g_nI hf (fun x40 hf => ?_)
  have ⟨h41, hf⟩ := gd_e hf
  have ⟨h42, hf⟩ := gd_e hf
  refine g_iald hx hb hK hR h41 h42 d_Tn_kept_50 ?_
  refine g_nI hf (fun x43 hf => ?_)
  refine lv_bipush (v := 7) hx hb d_Tn_kept_51 (by decide) ?_
  refine lv_irem hx hb d_Tn_kept_53 (by decide) ?_
  refine g_nI hf (fun x44 hf => ?_)
  have ⟨h45, hf⟩ := gd_e hf
  have ⟨h46, hf⟩ := gd_e hf
  refine g_iast hx hb hK hR hS h45 h46 d_Tn_kept_54 (fun H locs hR hS => ?_)
  refine g_nW hf hR (fun w47 hf hR => ?_)
  refine lv_aload_n hx hb d_Tn_kept_55 rfl (lv_at hl 0 rfl) ?_
  refine lv_iconst (v := 1) hx hb d_Tn_kept_56 (by decide) ?_
  have ⟨h51, hf⟩ := gd_e hf
  have ⟨x48, w49, h50, hf⟩ := kl_e hf
  refine g_ki0 (g_rV (As := [.int 1]) (rest := []) hx hb hml hown hts hK hR hS (c_Tn_together l D cA oc B N a0 1 w47 h50) I_Tn_together m_391 mp_2 (gRecv hK hR (ci := 7) rfl h51) rfl rfl (Nat.le_of_ble_eq_true rfl) hl.1 ⟨Nat.le_of_ble_eq_true rfl, Nat.le_of_ble_eq_true rfl⟩ ⟨Nat.le_of_ble_eq_true rfl, Nat.le_of_ble_eq_true rfl⟩ d_Tn_kept_57) hS (fun H locs hR hS => ?_)
  exact g_iret hx hb hr hlocks hR hS hf rfl d_Tn_kept_60
theorem c_Tn_kept (l : Launch) (D : va_G) (cA : Nat → ClassId) (oc : gO) (B N : Nat) (a0 : Nat) (a1 : Nat) (a2 : Nat) (a3 : Int32) (w : gW) {wz : gW} {r : Int32} (hf : f_Tn_kept N a0 a1 a2 a3 w = some (r, wz)) : Met l y_Tn_kept (Cond.code y_Tn_kept b_Tn_kept 4 (some .int) :: lw_good) ({ frames := 4, cells := 0, slots := 0, locals := 112 } : Room) (gPre D cA oc B [.ref (B + a0), .ref (B + a1), .ref (B + a2), .int a3] w) (gQi D cA B r wz) 0 0 (gA B) := by
  refine Met.ofW (cc := b_Tn_kept) (maxL := 4) (ret := (some .int)) (by decide +kernel) rfl ?_
  intro p e s m args below meth c s₁ Bd hml hv
  obtain ⟨hargs, C, hR⟩ := gC.enter (l := l) rfl Bd hml hv
  subst hargs
  have hl := lv_entry ([.ref (B + a0), .ref (B + a1), .ref (B + a2), .int a3]) (n := 4) (Nat.le_of_ble_eq_true rfl)
  rw [lg_entry_eq]
  generalize (lg_sl ([.ref (B + a0), .ref (B + a1), .ref (B + a2), .int a3]) ++ List.replicate (4 - (lg_sl ([.ref (B + a0), .ref (B + a1), .ref (B + a2), .int a3])).length) Slot.unset).toArray = ls at hl ⊢
  have hl : lv_has ls 4 [(0, .ref (B + a0)), (1, .ref (B + a1)), (2, .ref (B + a2)), (3, .int a3)] := hl
  exact c_Tn_kept_b0 C a0 a1 a2 a3 w (lv_sub hl [0, 1, 2, 3] rfl) hf hR va_S.rf
theorem d_Tn_init_0 : decode b_Tn_init 0 = .ok (.aload_n 0, 1) := by decide +kernel
theorem d_Tn_init_1 : decode b_Tn_init 1 = .ok (.invokespecial 3, 3) := by decide +kernel
theorem d_Tn_init_4 : decode b_Tn_init 4 = .ok (.aload_n 0, 1) := by decide +kernel
theorem d_Tn_init_5 : decode b_Tn_init 5 = .ok (.bipush 6, 2) := by decide +kernel
theorem d_Tn_init_7 : decode b_Tn_init 7 = .ok (.newarray .int, 2) := by decide +kernel
theorem d_Tn_init_9 : decode b_Tn_init 9 = .ok (.putfield 9, 3) := by decide +kernel
theorem d_Tn_init_12 : decode b_Tn_init 12 = .ok (.aload_n 0, 1) := by decide +kernel
theorem d_Tn_init_13 : decode b_Tn_init 13 = .ok (.iconst 2, 1) := by decide +kernel
theorem d_Tn_init_14 : decode b_Tn_init 14 = .ok (.putfield 15, 3) := by decide +kernel
theorem d_Tn_init_17 : decode b_Tn_init 17 = .ok (.aload_n 0, 1) := by decide +kernel
theorem d_Tn_init_18 : decode b_Tn_init 18 = .ok (.bipush 10, 2) := by decide +kernel
theorem d_Tn_init_20 : decode b_Tn_init 20 = .ok (.newarray .int, 2) := by decide +kernel
theorem d_Tn_init_22 : decode b_Tn_init 22 = .ok (.putfield 19, 3) := by decide +kernel
theorem d_Tn_init_25 : decode b_Tn_init 25 = .ok (.aload_n 0, 1) := by decide +kernel
theorem d_Tn_init_26 : decode b_Tn_init 26 = .ok (.bipush 10, 2) := by decide +kernel
theorem d_Tn_init_28 : decode b_Tn_init 28 = .ok (.newarray .int, 2) := by decide +kernel
theorem d_Tn_init_30 : decode b_Tn_init 30 = .ok (.putfield 22, 3) := by decide +kernel
theorem d_Tn_init_33 : decode b_Tn_init 33 = .ok (.aload_n 0, 1) := by decide +kernel
theorem d_Tn_init_34 : decode b_Tn_init 34 = .ok (.bipush 10, 2) := by decide +kernel
theorem d_Tn_init_36 : decode b_Tn_init 36 = .ok (.newarray .int, 2) := by decide +kernel
theorem d_Tn_init_38 : decode b_Tn_init 38 = .ok (.putfield 25, 3) := by decide +kernel
theorem d_Tn_init_41 : decode b_Tn_init 41 = .ok (.aload_n 0, 1) := by decide +kernel
theorem d_Tn_init_42 : decode b_Tn_init 42 = .ok (.bipush 10, 2) := by decide +kernel
theorem d_Tn_init_44 : decode b_Tn_init 44 = .ok (.newarray .int, 2) := by decide +kernel
theorem d_Tn_init_46 : decode b_Tn_init 46 = .ok (.putfield 28, 3) := by decide +kernel
theorem d_Tn_init_49 : decode b_Tn_init 49 = .ok (.aload_n 0, 1) := by decide +kernel
theorem d_Tn_init_50 : decode b_Tn_init 50 = .ok (.iconst 0, 1) := by decide +kernel
theorem d_Tn_init_51 : decode b_Tn_init 51 = .ok (.putfield 31, 3) := by decide +kernel
theorem d_Tn_init_54 : decode b_Tn_init 54 = .ok (.aload_n 0, 1) := by decide +kernel
theorem d_Tn_init_55 : decode b_Tn_init 55 = .ok (.bipush 100, 2) := by decide +kernel
theorem d_Tn_init_57 : decode b_Tn_init 57 = .ok (.newarray .int, 2) := by decide +kernel
theorem d_Tn_init_59 : decode b_Tn_init 59 = .ok (.putfield 34, 3) := by decide +kernel
theorem d_Tn_init_62 : decode b_Tn_init 62 = .ok (.aload_n 0, 1) := by decide +kernel
theorem d_Tn_init_63 : decode b_Tn_init 63 = .ok (.iconst 0, 1) := by decide +kernel
theorem d_Tn_init_64 : decode b_Tn_init 64 = .ok (.putfield 37, 3) := by decide +kernel
theorem d_Tn_init_67 : decode b_Tn_init 67 = .ok (.aload_n 0, 1) := by decide +kernel
theorem d_Tn_init_68 : decode b_Tn_init 68 = .ok (.bipush 6, 2) := by decide +kernel
theorem d_Tn_init_70 : decode b_Tn_init 70 = .ok (.newarray .int, 2) := by decide +kernel
theorem d_Tn_init_72 : decode b_Tn_init 72 = .ok (.putfield 40, 3) := by decide +kernel
theorem d_Tn_init_75 : decode b_Tn_init 75 = .ok (.aload_n 0, 1) := by decide +kernel
theorem d_Tn_init_76 : decode b_Tn_init 76 = .ok (.aconst_null, 1) := by decide +kernel
theorem d_Tn_init_77 : decode b_Tn_init 77 = .ok (.putfield 43, 3) := by decide +kernel
theorem d_Tn_init_80 : decode b_Tn_init 80 = .ok (.aload_n 0, 1) := by decide +kernel
theorem d_Tn_init_81 : decode b_Tn_init 81 = .ok (.iconst 0, 1) := by decide +kernel
theorem d_Tn_init_82 : decode b_Tn_init 82 = .ok (.putfield 47, 3) := by decide +kernel
theorem d_Tn_init_85 : decode b_Tn_init 85 = .ok (.aload_n 0, 1) := by decide +kernel
theorem d_Tn_init_86 : decode b_Tn_init 86 = .ok (.iconst 0, 1) := by decide +kernel
theorem d_Tn_init_87 : decode b_Tn_init 87 = .ok (.putfield 50, 3) := by decide +kernel
theorem d_Tn_init_90 : decode b_Tn_init 90 = .ok (.iconst 0, 1) := by decide +kernel
theorem d_Tn_init_91 : decode b_Tn_init 91 = .ok (.istore_n 1, 1) := by decide +kernel
theorem d_Tn_init_92 : decode b_Tn_init 92 = .ok (.iload_n 1, 1) := by decide +kernel
theorem d_Tn_init_93 : decode b_Tn_init 93 = .ok (.bipush 6, 2) := by decide +kernel
theorem d_Tn_init_95 : decode b_Tn_init 95 = .ok (.if_icmp .ge 18, 3) := by decide +kernel
theorem d_Tn_init_98 : decode b_Tn_init 98 = .ok (.aload_n 0, 1) := by decide +kernel
theorem d_Tn_init_99 : decode b_Tn_init 99 = .ok (.getfield 9, 3) := by decide +kernel
theorem d_Tn_init_102 : decode b_Tn_init 102 = .ok (.iload_n 1, 1) := by decide +kernel
theorem d_Tn_init_103 : decode b_Tn_init 103 = .ok (.iconst 2, 1) := by decide +kernel
theorem d_Tn_init_104 : decode b_Tn_init 104 = .ok (.iload_n 1, 1) := by decide +kernel
theorem d_Tn_init_105 : decode b_Tn_init 105 = .ok (.iadd, 1) := by decide +kernel
theorem d_Tn_init_106 : decode b_Tn_init 106 = .ok (.iastore, 1) := by decide +kernel
theorem d_Tn_init_107 : decode b_Tn_init 107 = .ok (.iinc 1 1, 3) := by decide +kernel
theorem d_Tn_init_110 : decode b_Tn_init 110 = .ok (.goto (-18), 3) := by decide +kernel
theorem d_Tn_init_113 : decode b_Tn_init 113 = .ok (.return_, 1) := by decide +kernel
set_option maxRecDepth 20000 in
theorem c_Tn_init_b92 {r : Unit} {wz : gW} {rec92 : Nat × Int32 × Nat × Nat × gW → Option (Unit × gW)} (ih92 : ∀ (a0 : Nat) (a1 : Int32) (kc : Nat) (ks : Nat) (w : gW) (ls : Array Slot) (H : Heap) (locs : List Loc), rec92 (a0, a1, kc, ks, w) = some (r, wz) → lv_has ls 2 [(0, .ref (B + a0)), (1, .int a1)] → gRep D cA B w H → va_S (gA B) s.heap H locs → W p l e ({ frames := 1, cells := 7, slots := 152, locals := 60 } : Room) s m args below meth c H locs kc ks (MQ below (gQv D cA B r wz) args s 7 152 (gA B)) (F0 m 92 ls [])) (C : gC p s m args meth c "RidCoppers$Town" b_Tn_init 2 none D cA oc B) (hin : meth.name = "<init>") (a0 : Nat) (a1 : Int32) (kc : Nat) (ks : Nat) (w : gW) {ls : Array Slot} {H : Heap} {locs : List Loc} (hl : lv_has ls 2 [(0, .ref (B + a0)), (1, .int a1)]) (hf : f_Tn_init_b92 N rec92 a0 a1 kc ks w = some (r, wz)) (hR : gRep D cA B w H) (hS : va_S (gA B) s.heap H locs) : W p l e ({ frames := 1, cells := 7, slots := 152, locals := 60 } : Room) s m args below meth c H locs kc ks (MQ below (gQv D cA B r wz) args s 7 152 (gA B)) (F0 m 92 ls []) := by
  obtain ⟨hx, hb, hml, hown, hts, hr, hlocks, hK, hBs⟩ := id C
  unfold f_Tn_init_b92 at hf
  refine lv_iload_n hx hb d_Tn_init_92 rfl (lv_at hl 1 rfl) ?_
  refine lv_bipush (v := 6) hx hb d_Tn_init_93 (by decide) ?_
  refine lv_icmp_ge (tgt := 113) hx hb d_Tn_init_95 (by decide) (fun hc => ?_) (fun hc => ?_)
  · have hf := cd_t hc hf
    have ⟨h41, hf⟩ := gd_e hf
    refine W.widen (k := 7) (n := 152) h41.1 h41.2 ?_
    exact g_vret hx hb hr hlocks hR hS hf d_Tn_init_113
  have hf := cd_f hc hf
  refine lv_aload_n hx hb d_Tn_init_98 rfl (lv_at hl 0 rfl) ?_
  have ⟨h42, hf⟩ := gd_e hf
  have ⟨x43, h44, hf⟩ := rr_e hf
  refine g_getR hx hb hts hown hK hR fl_Tn_9 (fun _ => rfl) h42 h44 d_Tn_init_99 ?_
  refine lv_iload_n hx hb d_Tn_init_102 rfl (lv_at hl 1 rfl) ?_
  refine lv_iconst (v := 2) hx hb d_Tn_init_103 (by decide) ?_
  refine lv_iload_n hx hb d_Tn_init_104 rfl (lv_at hl 1 rfl) ?_
  refine lv_iadd hx hb d_Tn_init_105 ?_
  refine g_nI hf (fun x45 hf => ?_)
  have ⟨h46, hf⟩ := gd_e hf
  have ⟨h47, hf⟩ := gd_e hf
  refine g_iast hx hb hK hR hS h46 h47 d_Tn_init_106 (fun H locs hR hS => ?_)
  refine g_nW hf hR (fun w48 hf hR => ?_)
  refine g_iinc (lv' := fun x49 => [(1, .int x49), (0, .ref (B + a0))]) hf hx hb d_Tn_init_107 hl (k := 1) rfl (by decide) (by decide) (fun _ => rfl) (fun x49 ls hf hl => ?_)
  refine lv_goto (tgt := 92) hx hb d_Tn_init_110 (by decide) ?_
  exact ih92 a0 x49 kc ks w48 _ _ _ hf (lv_sub hl [1, 0] rfl) hR hS
theorem c_Tn_init_l92 {r : Unit} {wz : gW} (C : gC p s m args meth c "RidCoppers$Town" b_Tn_init 2 none D cA oc B) (hin : meth.name = "<init>") (a0 : Nat) (a1 : Int32) (kc : Nat) (ks : Nat) (w : gW) {ls : Array Slot} {H : Heap} {locs : List Loc} (hl : lv_has ls 2 [(0, .ref (B + a0)), (1, .int a1)]) (hf : f_Tn_init_l92 N a0 a1 kc ks w = some (r, wz)) (hR : gRep D cA B w H) (hS : va_S (gA B) s.heap H locs) : W p l e ({ frames := 1, cells := 7, slots := 152, locals := 60 } : Room) s m args below meth c H locs kc ks (MQ below (gQv D cA B r wz) args s 7 152 (gA B)) (F0 m 92 ls []) := by
  unfold f_Tn_init_l92 at hf
  suffices hh : ∀ n : Nat, ∀ (a0 : Nat) (a1 : Int32) (kc : Nat) (ks : Nat) (w : gW) (ls : Array Slot) (H : Heap) (locs : List Loc), itr (fun rec (q : Nat × Int32 × Nat × Nat × gW) => f_Tn_init_b92 N rec q.1 q.2.1 q.2.2.1 q.2.2.2.1 q.2.2.2.2) n (a0, a1, kc, ks, w) = some (r, wz) → lv_has ls 2 [(0, .ref (B + a0)), (1, .int a1)] → gRep D cA B w H → va_S (gA B) s.heap H locs → W p l e ({ frames := 1, cells := 7, slots := 152, locals := 60 } : Room) s m args below meth c H locs kc ks (MQ below (gQv D cA B r wz) args s 7 152 (gA B)) (F0 m 92 ls []) from hh N a0 a1 kc ks w ls H locs hf hl hR hS
  intro n
  induction n with
  | zero => intro a0 a1 kc ks w ls H locs hf; cases hf
  | succ n ihn =>
    intro a0 a1 kc ks w ls H locs hf hl hR hS
    exact c_Tn_init_b92 (N := N) ihn C hin a0 a1 kc ks w hl ((itr_s _ _ _).symm.trans hf) hR hS
set_option maxRecDepth 20000 in
theorem c_Tn_init_b0 {r : Unit} {wz : gW} (C : gC p s m args meth c "RidCoppers$Town" b_Tn_init 2 none D cA oc B) (hin : meth.name = "<init>") (a0 : Nat) (w : gW) {ls : Array Slot} {H : Heap} {locs : List Loc} (hl : lv_has ls 2 [(0, .ref (B + a0))]) (hf : f_Tn_init_b0 N a0 w = some (r, wz)) (hR : gRep D cA B w H) (hS : va_S (gA B) s.heap H locs) : W p l e ({ frames := 1, cells := 7, slots := 152, locals := 60 } : Room) s m args below meth c H locs 0 0 (MQ below (gQv D cA B r wz) args s 7 152 (gA B)) (F0 m 0 ls []) := by
  obtain ⟨hx, hb, hml, hown, hts, hr, hlocks, hK, hBs⟩ := id C
  unfold f_Tn_init_b0 at hf
  refine lv_aload_n hx hb d_Tn_init_0 rfl (lv_at hl 0 rfl) ?_
  refine W.objInit hx hb hown (hts _ m_35) (hts _ m_28) (hts _ m_29) rfl (by rw [hml]; exact hl.1) rfl d_Tn_init_1 (Nat.le_of_ble_eq_true rfl) (Nat.le_of_ble_eq_true rfl) ?_
  refine W.eq (g2 := F0 m 4 ls []) rfl ?_
  refine lv_aload_n hx hb d_Tn_init_4 rfl (lv_at hl 0 rfl) ?_
  refine lv_bipush (v := 6) hx hb d_Tn_init_5 (by decide) ?_
  refine g_newa (kd := 50) (N := 6) hx hb hts hK hR hS (by decide) rfl m_81 (by decide) rfl (Nat.le_of_ble_eq_true rfl) (Nat.le_of_ble_eq_true rfl) (Nat.le_of_ble_eq_true rfl) d_Tn_init_7 (fun H hR hS => ?_)
  refine g_nA hf (fun p1 hf => ?_)
  refine g_nW hf hR (fun w2 hf hR => ?_)
  have ⟨h3, hf⟩ := gd_e hf
  refine g_putFR hx hb hts hown hK hR hS pf_Tn_9 hin (fun _ => rfl) (fun _ => rfl) (fun _ => rfl) h3 d_Tn_init_9 (fun H locs hR hS => ?_)
  refine g_nW hf hR (fun w4 hf hR => ?_)
  refine lv_aload_n hx hb d_Tn_init_12 rfl (lv_at hl 0 rfl) ?_
  refine lv_iconst (v := 2) hx hb d_Tn_init_13 (by decide) ?_
  have ⟨h5, hf⟩ := gd_e hf
  refine g_putI hx hb hts hown hK hR hS pf_Tn_15 (fun _ => rfl) rfl rfl h5 d_Tn_init_14 (fun H locs hR hS => ?_)
  refine g_nW hf hR (fun w6 hf hR => ?_)
  refine lv_aload_n hx hb d_Tn_init_17 rfl (lv_at hl 0 rfl) ?_
  refine lv_bipush (v := 10) hx hb d_Tn_init_18 (by decide) ?_
  refine g_newa (kd := 50) (N := 10) hx hb hts hK hR hS (by decide) rfl m_81 (by decide) rfl (Nat.le_of_ble_eq_true rfl) (Nat.le_of_ble_eq_true rfl) (Nat.le_of_ble_eq_true rfl) d_Tn_init_20 (fun H hR hS => ?_)
  refine g_nA hf (fun p7 hf => ?_)
  refine g_nW hf hR (fun w8 hf hR => ?_)
  have ⟨h9, hf⟩ := gd_e hf
  refine g_putFR hx hb hts hown hK hR hS pf_Tn_19 hin (fun _ => rfl) (fun _ => rfl) (fun _ => rfl) h9 d_Tn_init_22 (fun H locs hR hS => ?_)
  refine g_nW hf hR (fun w10 hf hR => ?_)
  refine lv_aload_n hx hb d_Tn_init_25 rfl (lv_at hl 0 rfl) ?_
  refine lv_bipush (v := 10) hx hb d_Tn_init_26 (by decide) ?_
  refine g_newa (kd := 50) (N := 10) hx hb hts hK hR hS (by decide) rfl m_81 (by decide) rfl (Nat.le_of_ble_eq_true rfl) (Nat.le_of_ble_eq_true rfl) (Nat.le_of_ble_eq_true rfl) d_Tn_init_28 (fun H hR hS => ?_)
  refine g_nA hf (fun p11 hf => ?_)
  refine g_nW hf hR (fun w12 hf hR => ?_)
  have ⟨h13, hf⟩ := gd_e hf
  refine g_putFR hx hb hts hown hK hR hS pf_Tn_22 hin (fun _ => rfl) (fun _ => rfl) (fun _ => rfl) h13 d_Tn_init_30 (fun H locs hR hS => ?_)
  refine g_nW hf hR (fun w14 hf hR => ?_)
  refine lv_aload_n hx hb d_Tn_init_33 rfl (lv_at hl 0 rfl) ?_
  refine lv_bipush (v := 10) hx hb d_Tn_init_34 (by decide) ?_
  refine g_newa (kd := 50) (N := 10) hx hb hts hK hR hS (by decide) rfl m_81 (by decide) rfl (Nat.le_of_ble_eq_true rfl) (Nat.le_of_ble_eq_true rfl) (Nat.le_of_ble_eq_true rfl) d_Tn_init_36 (fun H hR hS => ?_)
  refine g_nA hf (fun p15 hf => ?_)
  refine g_nW hf hR (fun w16 hf hR => ?_)
  have ⟨h17, hf⟩ := gd_e hf
  refine g_putFR hx hb hts hown hK hR hS pf_Tn_25 hin (fun _ => rfl) (fun _ => rfl) (fun _ => rfl) h17 d_Tn_init_38 (fun H locs hR hS => ?_)
  refine g_nW hf hR (fun w18 hf hR => ?_)
  refine lv_aload_n hx hb d_Tn_init_41 rfl (lv_at hl 0 rfl) ?_
  refine lv_bipush (v := 10) hx hb d_Tn_init_42 (by decide) ?_
  refine g_newa (kd := 50) (N := 10) hx hb hts hK hR hS (by decide) rfl m_81 (by decide) rfl (Nat.le_of_ble_eq_true rfl) (Nat.le_of_ble_eq_true rfl) (Nat.le_of_ble_eq_true rfl) d_Tn_init_44 (fun H hR hS => ?_)
  refine g_nA hf (fun p19 hf => ?_)
  refine g_nW hf hR (fun w20 hf hR => ?_)
  have ⟨h21, hf⟩ := gd_e hf
  refine g_putFR hx hb hts hown hK hR hS pf_Tn_28 hin (fun _ => rfl) (fun _ => rfl) (fun _ => rfl) h21 d_Tn_init_46 (fun H locs hR hS => ?_)
  refine g_nW hf hR (fun w22 hf hR => ?_)
  refine lv_aload_n hx hb d_Tn_init_49 rfl (lv_at hl 0 rfl) ?_
  refine lv_iconst (v := 0) hx hb d_Tn_init_50 (by decide) ?_
  have ⟨h23, hf⟩ := gd_e hf
  refine g_putI hx hb hts hown hK hR hS pf_Tn_31 (fun _ => rfl) rfl rfl h23 d_Tn_init_51 (fun H locs hR hS => ?_)
  refine g_nW hf hR (fun w24 hf hR => ?_)
  refine lv_aload_n hx hb d_Tn_init_54 rfl (lv_at hl 0 rfl) ?_
  refine lv_bipush (v := 100) hx hb d_Tn_init_55 (by decide) ?_
  refine g_newa (kd := 50) (N := 100) hx hb hts hK hR hS (by decide) rfl m_81 (by decide) rfl (Nat.le_of_ble_eq_true rfl) (Nat.le_of_ble_eq_true rfl) (Nat.le_of_ble_eq_true rfl) d_Tn_init_57 (fun H hR hS => ?_)
  refine g_nA hf (fun p25 hf => ?_)
  refine g_nW hf hR (fun w26 hf hR => ?_)
  have ⟨h27, hf⟩ := gd_e hf
  refine g_putFR hx hb hts hown hK hR hS pf_Tn_34 hin (fun _ => rfl) (fun _ => rfl) (fun _ => rfl) h27 d_Tn_init_59 (fun H locs hR hS => ?_)
  refine g_nW hf hR (fun w28 hf hR => ?_)
  refine lv_aload_n hx hb d_Tn_init_62 rfl (lv_at hl 0 rfl) ?_
  refine lv_iconst (v := 0) hx hb d_Tn_init_63 (by decide) ?_
  have ⟨h29, hf⟩ := gd_e hf
  refine g_putI hx hb hts hown hK hR hS pf_Tn_37 (fun _ => rfl) rfl rfl h29 d_Tn_init_64 (fun H locs hR hS => ?_)
  refine g_nW hf hR (fun w30 hf hR => ?_)
  refine lv_aload_n hx hb d_Tn_init_67 rfl (lv_at hl 0 rfl) ?_
  refine lv_bipush (v := 6) hx hb d_Tn_init_68 (by decide) ?_
  refine g_newa (kd := 50) (N := 6) hx hb hts hK hR hS (by decide) rfl m_81 (by decide) rfl (Nat.le_of_ble_eq_true rfl) (Nat.le_of_ble_eq_true rfl) (Nat.le_of_ble_eq_true rfl) d_Tn_init_70 (fun H hR hS => ?_)
  refine g_nA hf (fun p31 hf => ?_)
  refine g_nW hf hR (fun w32 hf hR => ?_)
  have ⟨h33, hf⟩ := gd_e hf
  refine g_putFR hx hb hts hown hK hR hS pf_Tn_40 hin (fun _ => rfl) (fun _ => rfl) (fun _ => rfl) h33 d_Tn_init_72 (fun H locs hR hS => ?_)
  refine g_nW hf hR (fun w34 hf hR => ?_)
  refine lv_aload_n hx hb d_Tn_init_75 rfl (lv_at hl 0 rfl) ?_
  refine lv_null hx hb d_Tn_init_76 ?_
  have ⟨h35, hf⟩ := gd_e hf
  refine g_putRN hx hb hts hown hK hR hS pf_Tn_43 (fun _ => rfl) rfl rfl h35 d_Tn_init_77 (fun H locs hR hS => ?_)
  refine g_nW hf hR (fun w36 hf hR => ?_)
  refine lv_aload_n hx hb d_Tn_init_80 rfl (lv_at hl 0 rfl) ?_
  refine lv_iconst (v := 0) hx hb d_Tn_init_81 (by decide) ?_
  have ⟨h37, hf⟩ := gd_e hf
  refine g_putI hx hb hts hown hK hR hS pf_Tn_47 (fun _ => rfl) rfl rfl h37 d_Tn_init_82 (fun H locs hR hS => ?_)
  refine g_nW hf hR (fun w38 hf hR => ?_)
  refine lv_aload_n hx hb d_Tn_init_85 rfl (lv_at hl 0 rfl) ?_
  refine lv_iconst (v := 0) hx hb d_Tn_init_86 (by decide) ?_
  have ⟨h39, hf⟩ := gd_e hf
  refine g_putI hx hb hts hown hK hR hS pf_Tn_50 (fun _ => rfl) rfl rfl h39 d_Tn_init_87 (fun H locs hR hS => ?_)
  refine g_nW hf hR (fun w40 hf hR => ?_)
  refine lv_iconst (v := 0) hx hb d_Tn_init_90 (by decide) ?_
  refine lv_istore_n (lv' := [(1, .int 0), (0, .ref (B + a0))]) hx hb d_Tn_init_91 rfl hl (by decide) rfl (fun ls hl => ?_)
  exact c_Tn_init_l92 C hin a0 0 7 152 w40 (lv_sub hl [1, 0] rfl) hf hR hS
theorem c_Tn_init (l : Launch) (D : va_G) (cA : Nat → ClassId) (oc : gO) (B N : Nat) (a0 : Nat) (w : gW) {wz : gW} {r : Unit} (hf : f_Tn_init N a0 w = some (r, wz)) : Met l y_Tn_init (Cond.code y_Tn_init b_Tn_init 2 none :: lw_good) ({ frames := 1, cells := 7, slots := 152, locals := 60 } : Room) (gPre D cA oc B [.ref (B + a0)] w) (gQv D cA B r wz) 7 152 (gA B) := by
  refine Met.ofW (cc := b_Tn_init) (maxL := 2) (ret := none) (by decide +kernel) rfl ?_
  intro p e s m args below meth c s₁ Bd hml hv
  obtain ⟨hargs, C, hR⟩ := gC.enter (l := l) rfl Bd hml hv
  have hin : meth.name = "<init>" := (name_of_methodNamed Bd.named Bd.method).1
  subst hargs
  have hl := lv_entry ([.ref (B + a0)]) (n := 2) (Nat.le_of_ble_eq_true rfl)
  rw [lg_entry_eq]
  generalize (lg_sl ([.ref (B + a0)]) ++ List.replicate (2 - (lg_sl ([.ref (B + a0)])).length) Slot.unset).toArray = ls at hl ⊢
  have hl : lv_has ls 2 [(0, .ref (B + a0))] := hl
  exact c_Tn_init_b0 C hin a0 w (lv_sub hl [0] rfl) hf hR va_S.rf
theorem d_Tn_ahead_0 : decode b_Tn_ahead 0 = .ok (.aload_n 0, 1) := by decide +kernel
theorem d_Tn_ahead_1 : decode b_Tn_ahead 1 = .ok (.getfield 43, 3) := by decide +kernel
theorem d_Tn_ahead_4 : decode b_Tn_ahead 4 = .ok (.ifnull 38, 3) := by decide +kernel
theorem d_Tn_ahead_7 : decode b_Tn_ahead 7 = .ok (.aload_n 0, 1) := by decide +kernel
theorem d_Tn_ahead_8 : decode b_Tn_ahead 8 = .ok (.getfield 50, 3) := by decide +kernel
theorem d_Tn_ahead_11 : decode b_Tn_ahead 11 = .ok (.aload_n 0, 1) := by decide +kernel
theorem d_Tn_ahead_12 : decode b_Tn_ahead 12 = .ok (.getfield 47, 3) := by decide +kernel
theorem d_Tn_ahead_15 : decode b_Tn_ahead 15 = .ok (.if_icmp .ge 27, 3) := by decide +kernel
theorem d_Tn_ahead_18 : decode b_Tn_ahead 18 = .ok (.aload_n 0, 1) := by decide +kernel
theorem d_Tn_ahead_19 : decode b_Tn_ahead 19 = .ok (.getfield 50, 3) := by decide +kernel
theorem d_Tn_ahead_22 : decode b_Tn_ahead 22 = .ok (.aload_n 0, 1) := by decide +kernel
theorem d_Tn_ahead_23 : decode b_Tn_ahead 23 = .ok (.getfield 43, 3) := by decide +kernel
theorem d_Tn_ahead_26 : decode b_Tn_ahead 26 = .ok (.arraylength, 1) := by decide +kernel
theorem d_Tn_ahead_27 : decode b_Tn_ahead 27 = .ok (.if_icmp .ge 15, 3) := by decide +kernel
theorem d_Tn_ahead_30 : decode b_Tn_ahead 30 = .ok (.aload_n 0, 1) := by decide +kernel
theorem d_Tn_ahead_31 : decode b_Tn_ahead 31 = .ok (.getfield 43, 3) := by decide +kernel
theorem d_Tn_ahead_34 : decode b_Tn_ahead 34 = .ok (.aload_n 0, 1) := by decide +kernel
theorem d_Tn_ahead_35 : decode b_Tn_ahead 35 = .ok (.getfield 50, 3) := by decide +kernel
theorem d_Tn_ahead_38 : decode b_Tn_ahead 38 = .ok (.baload, 1) := by decide +kernel
theorem d_Tn_ahead_39 : decode b_Tn_ahead 39 = .ok (.goto 4, 3) := by decide +kernel
theorem d_Tn_ahead_42 : decode b_Tn_ahead 42 = .ok (.iconst (-1), 1) := by decide +kernel
theorem d_Tn_ahead_43 : decode b_Tn_ahead 43 = .ok (.ireturn, 1) := by decide +kernel
set_option maxRecDepth 20000 in
theorem c_Tn_ahead_b0 {r : Int32} {wz : gW} (C : gC p s m args meth c "RidCoppers$Town" b_Tn_ahead 1 (some .int) D cA oc B) (a0 : Nat) (w : gW) {ls : Array Slot} {H : Heap} {locs : List Loc} (hl : lv_has ls 1 [(0, .ref (B + a0))]) (hf : f_Tn_ahead_b0 N a0 w = some (r, wz)) (hR : gRep D cA B w H) (hS : va_S (gA B) s.heap H locs) : W p l e ({ frames := 1, cells := 0, slots := 0, locals := 40 } : Room) s m args below meth c H locs 0 0 (MQ below (gQi D cA B r wz) args s 0 0 (gA B)) (F0 m 0 ls []) := by
  obtain ⟨hx, hb, hml, hown, hts, hr, hlocks, hK, hBs⟩ := id C
  unfold f_Tn_ahead_b0 at hf
  refine lv_aload_n hx hb d_Tn_ahead_0 rfl (lv_at hl 0 rfl) ?_
  have ⟨h1, hf⟩ := gd_e hf
  rcases nr_e hf with ⟨h3, hf⟩ | ⟨x2, h3, hf⟩
  · refine g_getN hx hb hts hown hK hR fl_Tn_43 (fun _ => rfl) h1 h3 d_Tn_ahead_1 ?_
    refine lv_ifnullN (tgt := 42) hx hb d_Tn_ahead_4 (by decide) ?_
    refine lv_iconst (v := (-1)) hx hb d_Tn_ahead_42 (by decide) ?_
    exact g_iret hx hb hr hlocks hR hS hf rfl d_Tn_ahead_43
  refine g_getR hx hb hts hown hK hR fl_Tn_43 (fun _ => rfl) h1 h3 d_Tn_ahead_1 ?_
  refine lv_ifnull hx hb d_Tn_ahead_4 ?_
  refine lv_aload_n hx hb d_Tn_ahead_7 rfl (lv_at hl 0 rfl) ?_
  refine g_getI hx hb hts hown hK hR fl_Tn_50 (fun _ => rfl) h1 d_Tn_ahead_8 ?_
  refine g_nI hf (fun x4 hf => ?_)
  refine lv_aload_n hx hb d_Tn_ahead_11 rfl (lv_at hl 0 rfl) ?_
  refine g_getI hx hb hts hown hK hR fl_Tn_47 (fun _ => rfl) h1 d_Tn_ahead_12 ?_
  refine g_nI hf (fun x5 hf => ?_)
  refine lv_icmp_ge (tgt := 42) hx hb d_Tn_ahead_15 (by decide) (fun hc => ?_) (fun hc => ?_)
  · have hf := cd_t hc hf
    refine lv_iconst (v := (-1)) hx hb d_Tn_ahead_42 (by decide) ?_
    exact g_iret hx hb hr hlocks hR hS hf rfl d_Tn_ahead_43
  have hf := cd_f hc hf
  refine lv_aload_n hx hb d_Tn_ahead_18 rfl (lv_at hl 0 rfl) ?_
  refine g_getI hx hb hts hown hK hR fl_Tn_50 (fun _ => rfl) h1 d_Tn_ahead_19 ?_
  refine g_nI hf (fun x6 hf => ?_)
  refine lv_aload_n hx hb d_Tn_ahead_22 rfl (lv_at hl 0 rfl) ?_
  refine g_getR hx hb hts hown hK hR fl_Tn_43 (fun _ => rfl) h1 h3 d_Tn_ahead_23 ?_
  have ⟨h7, hf⟩ := gd_e hf
  refine g_alen hx hb hK hR (by decide) h7 d_Tn_ahead_26 ?_
  refine g_nI hf (fun x8 hf => ?_)
  refine lv_icmp_ge (tgt := 42) hx hb d_Tn_ahead_27 (by decide) (fun hc => ?_) (fun hc => ?_)
  · have hf := cd_t hc hf
    refine lv_iconst (v := (-1)) hx hb d_Tn_ahead_42 (by decide) ?_
    exact g_iret hx hb hr hlocks hR hS hf rfl d_Tn_ahead_43
  have hf := cd_f hc hf
  refine lv_aload_n hx hb d_Tn_ahead_30 rfl (lv_at hl 0 rfl) ?_
  refine g_getR hx hb hts hown hK hR fl_Tn_43 (fun _ => rfl) h1 h3 d_Tn_ahead_31 ?_
  refine lv_aload_n hx hb d_Tn_ahead_34 rfl (lv_at hl 0 rfl) ?_
  refine g_getI hx hb hts hown hK hR fl_Tn_50 (fun _ => rfl) h1 d_Tn_ahead_35 ?_
  refine g_nI hf (fun x9 hf => ?_)
  have ⟨h10, hf⟩ := gd_e hf
  refine g_bald hx hb hK hR h7 h10 d_Tn_ahead_38 ?_
  refine g_nI hf (fun x11 hf => ?_)
  refine lv_goto (tgt := 43) hx hb d_Tn_ahead_39 (by decide) ?_
  exact g_iret hx hb hr hlocks hR hS hf rfl d_Tn_ahead_43
theorem c_Tn_ahead (l : Launch) (D : va_G) (cA : Nat → ClassId) (oc : gO) (B N : Nat) (a0 : Nat) (w : gW) {wz : gW} {r : Int32} (hf : f_Tn_ahead N a0 w = some (r, wz)) : Met l y_Tn_ahead (Cond.code y_Tn_ahead b_Tn_ahead 1 (some .int) :: lw_good) ({ frames := 1, cells := 0, slots := 0, locals := 40 } : Room) (gPre D cA oc B [.ref (B + a0)] w) (gQi D cA B r wz) 0 0 (gA B) := by
  refine Met.ofW (cc := b_Tn_ahead) (maxL := 1) (ret := (some .int)) (by decide +kernel) rfl ?_
  intro p e s m args below meth c s₁ Bd hml hv
  obtain ⟨hargs, C, hR⟩ := gC.enter (l := l) rfl Bd hml hv
  subst hargs
  have hl := lv_entry ([.ref (B + a0)]) (n := 1) (Nat.le_of_ble_eq_true rfl)
  rw [lg_entry_eq]
  generalize (lg_sl ([.ref (B + a0)]) ++ List.replicate (1 - (lg_sl ([.ref (B + a0)])).length) Slot.unset).toArray = ls at hl ⊢
  have hl : lv_has ls 1 [(0, .ref (B + a0))] := hl
  exact c_Tn_ahead_b0 C a0 w (lv_sub hl [0] rfl) hf hR va_S.rf
theorem d_Tn_emit_0 : decode b_Tn_emit 0 = .ok (.aload_n 0, 1) := by decide +kernel
theorem d_Tn_emit_1 : decode b_Tn_emit 1 = .ok (.getfield 37, 3) := by decide +kernel
theorem d_Tn_emit_4 : decode b_Tn_emit 4 = .ok (.aload_n 0, 1) := by decide +kernel
theorem d_Tn_emit_5 : decode b_Tn_emit 5 = .ok (.getfield 34, 3) := by decide +kernel
theorem d_Tn_emit_8 : decode b_Tn_emit 8 = .ok (.arraylength, 1) := by decide +kernel
theorem d_Tn_emit_9 : decode b_Tn_emit 9 = .ok (.if_icmp .ge 23, 3) := by decide +kernel
theorem d_Tn_emit_12 : decode b_Tn_emit 12 = .ok (.aload_n 0, 1) := by decide +kernel
theorem d_Tn_emit_13 : decode b_Tn_emit 13 = .ok (.getfield 34, 3) := by decide +kernel
theorem d_Tn_emit_16 : decode b_Tn_emit 16 = .ok (.aload_n 0, 1) := by decide +kernel
theorem d_Tn_emit_17 : decode b_Tn_emit 17 = .ok (.getfield 37, 3) := by decide +kernel
theorem d_Tn_emit_20 : decode b_Tn_emit 20 = .ok (.iload_n 1, 1) := by decide +kernel
theorem d_Tn_emit_21 : decode b_Tn_emit 21 = .ok (.iastore, 1) := by decide +kernel
theorem d_Tn_emit_22 : decode b_Tn_emit 22 = .ok (.aload_n 0, 1) := by decide +kernel
theorem d_Tn_emit_23 : decode b_Tn_emit 23 = .ok (.dup, 1) := by decide +kernel
theorem d_Tn_emit_24 : decode b_Tn_emit 24 = .ok (.getfield 37, 3) := by decide +kernel
theorem d_Tn_emit_27 : decode b_Tn_emit 27 = .ok (.iconst 1, 1) := by decide +kernel
theorem d_Tn_emit_28 : decode b_Tn_emit 28 = .ok (.iadd, 1) := by decide +kernel
theorem d_Tn_emit_29 : decode b_Tn_emit 29 = .ok (.putfield 37, 3) := by decide +kernel
theorem d_Tn_emit_32 : decode b_Tn_emit 32 = .ok (.return_, 1) := by decide +kernel
set_option maxRecDepth 20000 in
theorem c_Tn_emit_b0 {r : Unit} {wz : gW} (C : gC p s m args meth c "RidCoppers$Town" b_Tn_emit 2 none D cA oc B) (a0 : Nat) (a1 : Int32) (w : gW) {ls : Array Slot} {H : Heap} {locs : List Loc} (hl : lv_has ls 2 [(0, .ref (B + a0)), (1, .int a1)]) (hf : f_Tn_emit_b0 N a0 a1 w = some (r, wz)) (hR : gRep D cA B w H) (hS : va_S (gA B) s.heap H locs) : W p l e ({ frames := 1, cells := 0, slots := 0, locals := 40 } : Room) s m args below meth c H locs 0 0 (MQ below (gQv D cA B r wz) args s 0 0 (gA B)) (F0 m 0 ls []) := by
  obtain ⟨hx, hb, hml, hown, hts, hr, hlocks, hK, hBs⟩ := id C
  unfold f_Tn_emit_b0 at hf
  refine lv_aload_n hx hb d_Tn_emit_0 rfl (lv_at hl 0 rfl) ?_
  have ⟨h1, hf⟩ := gd_e hf
  refine g_getI hx hb hts hown hK hR fl_Tn_37 (fun _ => rfl) h1 d_Tn_emit_1 ?_
  refine g_nI hf (fun x2 hf => ?_)
  refine lv_aload_n hx hb d_Tn_emit_4 rfl (lv_at hl 0 rfl) ?_
  have ⟨x3, h4, hf⟩ := rr_e hf
  refine g_getR hx hb hts hown hK hR fl_Tn_34 (fun _ => rfl) h1 h4 d_Tn_emit_5 ?_
  have ⟨h5, hf⟩ := gd_e hf
  refine g_alen hx hb hK hR (by decide) h5 d_Tn_emit_8 ?_
  refine g_nI hf (fun x6 hf => ?_)
  refine lv_icmp_ge (tgt := 32) hx hb d_Tn_emit_9 (by decide) (fun hc => ?_) (fun hc => ?_)
  · have hf := cd_t hc hf
    exact g_vret hx hb hr hlocks hR hS hf d_Tn_emit_32
  have hf := cd_f hc hf
  refine lv_aload_n hx hb d_Tn_emit_12 rfl (lv_at hl 0 rfl) ?_
  refine g_getR hx hb hts hown hK hR fl_Tn_34 (fun _ => rfl) h1 h4 d_Tn_emit_13 ?_
  refine lv_aload_n hx hb d_Tn_emit_16 rfl (lv_at hl 0 rfl) ?_
  refine g_getI hx hb hts hown hK hR fl_Tn_37 (fun _ => rfl) h1 d_Tn_emit_17 ?_
  refine g_nI hf (fun x7 hf => ?_)
  refine lv_iload_n hx hb d_Tn_emit_20 rfl (lv_at hl 1 rfl) ?_
  have ⟨h8, hf⟩ := gd_e hf
  refine g_iast hx hb hK hR hS h5 h8 d_Tn_emit_21 (fun H locs hR hS => ?_)
  refine g_nW hf hR (fun w9 hf hR => ?_)
  refine lv_aload_n hx hb d_Tn_emit_22 rfl (lv_at hl 0 rfl) ?_
  refine lv_dup hx hb d_Tn_emit_23 rfl ?_
  have ⟨h10, hf⟩ := gd_e hf
  refine g_getI hx hb hts hown hK hR fl_Tn_37 (fun _ => rfl) h10 d_Tn_emit_24 ?_
  refine g_nI hf (fun x11 hf => ?_)
  refine lv_iconst (v := 1) hx hb d_Tn_emit_27 (by decide) ?_
  refine lv_iadd hx hb d_Tn_emit_28 ?_
  refine g_nI hf (fun x12 hf => ?_)
  refine g_putI hx hb hts hown hK hR hS pf_Tn_37 (fun _ => rfl) rfl rfl h10 d_Tn_emit_29 (fun H locs hR hS => ?_)
  refine g_nW hf hR (fun w13 hf hR => ?_)
  exact g_vret hx hb hr hlocks hR hS hf d_Tn_emit_32
theorem c_Tn_emit (l : Launch) (D : va_G) (cA : Nat → ClassId) (oc : gO) (B N : Nat) (a0 : Nat) (a1 : Int32) (w : gW) {wz : gW} {r : Unit} (hf : f_Tn_emit N a0 a1 w = some (r, wz)) : Met l y_Tn_emit (Cond.code y_Tn_emit b_Tn_emit 2 none :: lw_good) ({ frames := 1, cells := 0, slots := 0, locals := 40 } : Room) (gPre D cA oc B [.ref (B + a0), .int a1] w) (gQv D cA B r wz) 0 0 (gA B) := by
  refine Met.ofW (cc := b_Tn_emit) (maxL := 2) (ret := none) (by decide +kernel) rfl ?_
  intro p e s m args below meth c s₁ Bd hml hv
  obtain ⟨hargs, C, hR⟩ := gC.enter (l := l) rfl Bd hml hv
  subst hargs
  have hl := lv_entry ([.ref (B + a0), .int a1]) (n := 2) (Nat.le_of_ble_eq_true rfl)
  rw [lg_entry_eq]
  generalize (lg_sl ([.ref (B + a0), .int a1]) ++ List.replicate (2 - (lg_sl ([.ref (B + a0), .int a1])).length) Slot.unset).toArray = ls at hl ⊢
  have hl : lv_has ls 2 [(0, .ref (B + a0)), (1, .int a1)] := hl
  exact c_Tn_emit_b0 C a0 a1 w (lv_sub hl [0, 1] rfl) hf hR va_S.rf
theorem d_Tn_takes_0 : decode b_Tn_takes 0 = .ok (.aload_n 0, 1) := by decide +kernel
theorem d_Tn_takes_1 : decode b_Tn_takes 1 = .ok (.invokevirtual 108, 3) := by decide +kernel
theorem d_Tn_takes_4 : decode b_Tn_takes 4 = .ok (.iload_n 1, 1) := by decide +kernel
theorem d_Tn_takes_5 : decode b_Tn_takes 5 = .ok (.if_icmp .eq 5, 3) := by decide +kernel
theorem d_Tn_takes_8 : decode b_Tn_takes 8 = .ok (.iconst 0, 1) := by decide +kernel
theorem d_Tn_takes_9 : decode b_Tn_takes 9 = .ok (.ireturn, 1) := by decide +kernel
theorem d_Tn_takes_10 : decode b_Tn_takes 10 = .ok (.aload_n 0, 1) := by decide +kernel
theorem d_Tn_takes_11 : decode b_Tn_takes 11 = .ok (.dup, 1) := by decide +kernel
theorem d_Tn_takes_12 : decode b_Tn_takes 12 = .ok (.getfield 50, 3) := by decide +kernel
theorem d_Tn_takes_15 : decode b_Tn_takes 15 = .ok (.iconst 1, 1) := by decide +kernel
theorem d_Tn_takes_16 : decode b_Tn_takes 16 = .ok (.iadd, 1) := by decide +kernel
theorem d_Tn_takes_17 : decode b_Tn_takes 17 = .ok (.putfield 50, 3) := by decide +kernel
theorem d_Tn_takes_20 : decode b_Tn_takes 20 = .ok (.iconst 1, 1) := by decide +kernel
theorem d_Tn_takes_21 : decode b_Tn_takes 21 = .ok (.ireturn, 1) := by decide +kernel
set_option maxRecDepth 20000 in
theorem c_Tn_takes_b0 {r : Int32} {wz : gW} (C : gC p s m args meth c "RidCoppers$Town" b_Tn_takes 2 (some .boolean) D cA oc B) (a0 : Nat) (a1 : Int32) (w : gW) {ls : Array Slot} {H : Heap} {locs : List Loc} (hl : lv_has ls 2 [(0, .ref (B + a0)), (1, .int a1)]) (hf : f_Tn_takes_b0 N a0 a1 w = some (r, wz)) (hR : gRep D cA B w H) (hS : va_S (gA B) s.heap H locs) : W p l e ({ frames := 2, cells := 0, slots := 0, locals := 60 } : Room) s m args below meth c H locs 0 0 (MQ below (gQi D cA B r wz) args s 0 0 (gA B)) (F0 m 0 ls []) := by
  obtain ⟨hx, hb, hml, hown, hts, hr, hlocks, hK, hBs⟩ := id C
  unfold f_Tn_takes_b0 at hf
  refine lv_aload_n hx hb d_Tn_takes_0 rfl (lv_at hl 0 rfl) ?_
  have ⟨h4, hf⟩ := gd_e hf
  have ⟨x1, w2, h3, hf⟩ := kl_e hf
  refine g_ki0 (g_rV (As := []) (rest := []) hx hb hml hown hts hK hR hS (c_Tn_ahead l D cA oc B N a0 w h3) I_Tn_ahead m_442 mp_6 (gRecv hK hR (ci := 7) rfl h4) rfl rfl (Nat.le_of_ble_eq_true rfl) hl.1 ⟨Nat.le_of_ble_eq_true rfl, Nat.le_of_ble_eq_true rfl⟩ ⟨Nat.le_of_ble_eq_true rfl, Nat.le_of_ble_eq_true rfl⟩ d_Tn_takes_1) hS (fun H locs hR hS => ?_)
  refine lv_iload_n hx hb d_Tn_takes_4 rfl (lv_at hl 1 rfl) ?_
  refine lv_icmp_eq (tgt := 10) hx hb d_Tn_takes_5 (by decide) (fun hc => ?_) (fun hc => ?_)
  · have hf := cd_t hc hf
    refine lv_aload_n hx hb d_Tn_takes_10 rfl (lv_at hl 0 rfl) ?_
    refine lv_dup hx hb d_Tn_takes_11 rfl ?_
    have ⟨h5, hf⟩ := gd_e hf
    refine g_getI hx hb hts hown hK hR fl_Tn_50 (fun _ => rfl) h5 d_Tn_takes_12 ?_
    refine g_nI hf (fun x6 hf => ?_)
    refine lv_iconst (v := 1) hx hb d_Tn_takes_15 (by decide) ?_
    refine lv_iadd hx hb d_Tn_takes_16 ?_
    refine g_nI hf (fun x7 hf => ?_)
    refine g_putI hx hb hts hown hK hR hS pf_Tn_50 (fun _ => rfl) rfl rfl h5 d_Tn_takes_17 (fun H locs hR hS => ?_)
    refine g_nW hf hR (fun w8 hf hR => ?_)
    refine lv_iconst (v := 1) hx hb d_Tn_takes_20 (by decide) ?_
    exact g_iret hx hb hr hlocks hR hS hf rfl d_Tn_takes_21
  have hf := cd_f hc hf
  refine lv_iconst (v := 0) hx hb d_Tn_takes_8 (by decide) ?_
  exact g_iret hx hb hr hlocks hR hS hf rfl d_Tn_takes_9
theorem c_Tn_takes (l : Launch) (D : va_G) (cA : Nat → ClassId) (oc : gO) (B N : Nat) (a0 : Nat) (a1 : Int32) (w : gW) {wz : gW} {r : Int32} (hf : f_Tn_takes N a0 a1 w = some (r, wz)) : Met l y_Tn_takes (Cond.code y_Tn_takes b_Tn_takes 2 (some .boolean) :: lw_good) ({ frames := 2, cells := 0, slots := 0, locals := 60 } : Room) (gPre D cA oc B [.ref (B + a0), .int a1] w) (gQi D cA B r wz) 0 0 (gA B) := by
  refine Met.ofW (cc := b_Tn_takes) (maxL := 2) (ret := (some .boolean)) (by decide +kernel) rfl ?_
  intro p e s m args below meth c s₁ Bd hml hv
  obtain ⟨hargs, C, hR⟩ := gC.enter (l := l) rfl Bd hml hv
  subst hargs
  have hl := lv_entry ([.ref (B + a0), .int a1]) (n := 2) (Nat.le_of_ble_eq_true rfl)
  rw [lg_entry_eq]
  generalize (lg_sl ([.ref (B + a0), .int a1]) ++ List.replicate (2 - (lg_sl ([.ref (B + a0), .int a1])).length) Slot.unset).toArray = ls at hl ⊢
  have hl : lv_has ls 2 [(0, .ref (B + a0)), (1, .int a1)] := hl
  exact c_Tn_takes_b0 C a0 a1 w (lv_sub hl [0, 1] rfl) hf hR va_S.rf
theorem d_Tn_isDigitAhead_0 : decode b_Tn_isDigitAhead 0 = .ok (.aload_n 0, 1) := by decide +kernel
theorem d_Tn_isDigitAhead_1 : decode b_Tn_isDigitAhead 1 = .ok (.invokevirtual 108, 3) := by decide +kernel
theorem d_Tn_isDigitAhead_4 : decode b_Tn_isDigitAhead 4 = .ok (.bipush 48, 2) := by decide +kernel
theorem d_Tn_isDigitAhead_6 : decode b_Tn_isDigitAhead 6 = .ok (.if_icmp .lt 16, 3) := by decide +kernel
theorem d_Tn_isDigitAhead_9 : decode b_Tn_isDigitAhead 9 = .ok (.aload_n 0, 1) := by decide +kernel
theorem d_Tn_isDigitAhead_10 : decode b_Tn_isDigitAhead 10 = .ok (.invokevirtual 108, 3) := by decide +kernel
theorem d_Tn_isDigitAhead_13 : decode b_Tn_isDigitAhead 13 = .ok (.bipush 57, 2) := by decide +kernel
theorem d_Tn_isDigitAhead_15 : decode b_Tn_isDigitAhead 15 = .ok (.if_icmp .gt 7, 3) := by decide +kernel
theorem d_Tn_isDigitAhead_18 : decode b_Tn_isDigitAhead 18 = .ok (.iconst 1, 1) := by decide +kernel
theorem d_Tn_isDigitAhead_19 : decode b_Tn_isDigitAhead 19 = .ok (.goto 4, 3) := by decide +kernel
theorem d_Tn_isDigitAhead_22 : decode b_Tn_isDigitAhead 22 = .ok (.iconst 0, 1) := by decide +kernel
theorem d_Tn_isDigitAhead_23 : decode b_Tn_isDigitAhead 23 = .ok (.ireturn, 1) := by decide +kernel
set_option maxRecDepth 20000 in
theorem c_Tn_isDigitAhead_b0 {r : Int32} {wz : gW} (C : gC p s m args meth c "RidCoppers$Town" b_Tn_isDigitAhead 1 (some .boolean) D cA oc B) (a0 : Nat) (w : gW) {ls : Array Slot} {H : Heap} {locs : List Loc} (hl : lv_has ls 1 [(0, .ref (B + a0))]) (hf : f_Tn_isDigitAhead_b0 N a0 w = some (r, wz)) (hR : gRep D cA B w H) (hS : va_S (gA B) s.heap H locs) : W p l e ({ frames := 2, cells := 0, slots := 0, locals := 60 } : Room) s m args below meth c H locs 0 0 (MQ below (gQi D cA B r wz) args s 0 0 (gA B)) (F0 m 0 ls []) := by
  obtain ⟨hx, hb, hml, hown, hts, hr, hlocks, hK, hBs⟩ := id C
  unfold f_Tn_isDigitAhead_b0 at hf
  refine lv_aload_n hx hb d_Tn_isDigitAhead_0 rfl (lv_at hl 0 rfl) ?_
  have ⟨h4, hf⟩ := gd_e hf
  have ⟨x1, w2, h3, hf⟩ := kl_e hf
  refine g_ki0 (g_rV (As := []) (rest := []) hx hb hml hown hts hK hR hS (c_Tn_ahead l D cA oc B N a0 w h3) I_Tn_ahead m_442 mp_6 (gRecv hK hR (ci := 7) rfl h4) rfl rfl (Nat.le_of_ble_eq_true rfl) hl.1 ⟨Nat.le_of_ble_eq_true rfl, Nat.le_of_ble_eq_true rfl⟩ ⟨Nat.le_of_ble_eq_true rfl, Nat.le_of_ble_eq_true rfl⟩ d_Tn_isDigitAhead_1) hS (fun H locs hR hS => ?_)
  refine lv_bipush (v := 48) hx hb d_Tn_isDigitAhead_4 (by decide) ?_
  refine lv_icmp_lt (tgt := 22) hx hb d_Tn_isDigitAhead_6 (by decide) (fun hc => ?_) (fun hc => ?_)
  · have hf := cd_t hc hf
    refine lv_iconst (v := 0) hx hb d_Tn_isDigitAhead_22 (by decide) ?_
    exact g_iret hx hb hr hlocks hR hS hf rfl d_Tn_isDigitAhead_23
  have hf := cd_f hc hf
  refine lv_aload_n hx hb d_Tn_isDigitAhead_9 rfl (lv_at hl 0 rfl) ?_
  have ⟨h8, hf⟩ := gd_e hf
  have ⟨x5, w6, h7, hf⟩ := kl_e hf
  refine g_ki0 (g_rV (As := []) (rest := []) hx hb hml hown hts hK hR hS (c_Tn_ahead l D cA oc B N a0 w2 h7) I_Tn_ahead m_442 mp_6 (gRecv hK hR (ci := 7) rfl h8) rfl rfl (Nat.le_of_ble_eq_true rfl) hl.1 ⟨Nat.le_of_ble_eq_true rfl, Nat.le_of_ble_eq_true rfl⟩ ⟨Nat.le_of_ble_eq_true rfl, Nat.le_of_ble_eq_true rfl⟩ d_Tn_isDigitAhead_10) hS (fun H locs hR hS => ?_)
  refine lv_bipush (v := 57) hx hb d_Tn_isDigitAhead_13 (by decide) ?_
  refine lv_icmp_gt (tgt := 22) hx hb d_Tn_isDigitAhead_15 (by decide) (fun hc => ?_) (fun hc => ?_)
  · have hf := cd_t hc hf
    refine lv_iconst (v := 0) hx hb d_Tn_isDigitAhead_22 (by decide) ?_
    exact g_iret hx hb hr hlocks hR hS hf rfl d_Tn_isDigitAhead_23
  have hf := cd_f hc hf
  refine lv_iconst (v := 1) hx hb d_Tn_isDigitAhead_18 (by decide) ?_
  refine lv_goto (tgt := 23) hx hb d_Tn_isDigitAhead_19 (by decide) ?_
  exact g_iret hx hb hr hlocks hR hS hf rfl d_Tn_isDigitAhead_23
theorem c_Tn_isDigitAhead (l : Launch) (D : va_G) (cA : Nat → ClassId) (oc : gO) (B N : Nat) (a0 : Nat) (w : gW) {wz : gW} {r : Int32} (hf : f_Tn_isDigitAhead N a0 w = some (r, wz)) : Met l y_Tn_isDigitAhead (Cond.code y_Tn_isDigitAhead b_Tn_isDigitAhead 1 (some .boolean) :: lw_good) ({ frames := 2, cells := 0, slots := 0, locals := 60 } : Room) (gPre D cA oc B [.ref (B + a0)] w) (gQi D cA B r wz) 0 0 (gA B) := by
  refine Met.ofW (cc := b_Tn_isDigitAhead) (maxL := 1) (ret := (some .boolean)) (by decide +kernel) rfl ?_
  intro p e s m args below meth c s₁ Bd hml hv
  obtain ⟨hargs, C, hR⟩ := gC.enter (l := l) rfl Bd hml hv
  subst hargs
  have hl := lv_entry ([.ref (B + a0)]) (n := 1) (Nat.le_of_ble_eq_true rfl)
  rw [lg_entry_eq]
  generalize (lg_sl ([.ref (B + a0)]) ++ List.replicate (1 - (lg_sl ([.ref (B + a0)])).length) Slot.unset).toArray = ls at hl ⊢
  have hl : lv_has ls 1 [(0, .ref (B + a0))] := hl
  exact c_Tn_isDigitAhead_b0 C a0 w (lv_sub hl [0] rfl) hf hR va_S.rf
theorem d_Tn_number_0 : decode b_Tn_number 0 = .ok (.aload_n 0, 1) := by decide +kernel
theorem d_Tn_number_1 : decode b_Tn_number 1 = .ok (.invokevirtual 154, 3) := by decide +kernel
theorem d_Tn_number_4 : decode b_Tn_number 4 = .ok (.ifCond .ne 5, 3) := by decide +kernel
theorem d_Tn_number_7 : decode b_Tn_number 7 = .ok (.iconst (-1), 1) := by decide +kernel
theorem d_Tn_number_8 : decode b_Tn_number 8 = .ok (.ireturn, 1) := by decide +kernel
theorem d_Tn_number_9 : decode b_Tn_number 9 = .ok (.aload_n 0, 1) := by decide +kernel
theorem d_Tn_number_10 : decode b_Tn_number 10 = .ok (.invokevirtual 108, 3) := by decide +kernel
theorem d_Tn_number_13 : decode b_Tn_number 13 = .ok (.bipush 48, 2) := by decide +kernel
theorem d_Tn_number_15 : decode b_Tn_number 15 = .ok (.isub, 1) := by decide +kernel
theorem d_Tn_number_16 : decode b_Tn_number 16 = .ok (.istore_n 1, 1) := by decide +kernel
theorem d_Tn_number_17 : decode b_Tn_number 17 = .ok (.aload_n 0, 1) := by decide +kernel
theorem d_Tn_number_18 : decode b_Tn_number 18 = .ok (.dup, 1) := by decide +kernel
theorem d_Tn_number_19 : decode b_Tn_number 19 = .ok (.getfield 50, 3) := by decide +kernel
theorem d_Tn_number_22 : decode b_Tn_number 22 = .ok (.iconst 1, 1) := by decide +kernel
theorem d_Tn_number_23 : decode b_Tn_number 23 = .ok (.iadd, 1) := by decide +kernel
theorem d_Tn_number_24 : decode b_Tn_number 24 = .ok (.putfield 50, 3) := by decide +kernel
theorem d_Tn_number_27 : decode b_Tn_number 27 = .ok (.aload_n 0, 1) := by decide +kernel
theorem d_Tn_number_28 : decode b_Tn_number 28 = .ok (.invokevirtual 154, 3) := by decide +kernel
theorem d_Tn_number_31 : decode b_Tn_number 31 = .ok (.ifCond .eq 26, 3) := by decide +kernel
theorem d_Tn_number_34 : decode b_Tn_number 34 = .ok (.iload_n 1, 1) := by decide +kernel
theorem d_Tn_number_35 : decode b_Tn_number 35 = .ok (.bipush 10, 2) := by decide +kernel
theorem d_Tn_number_37 : decode b_Tn_number 37 = .ok (.imul, 1) := by decide +kernel
theorem d_Tn_number_38 : decode b_Tn_number 38 = .ok (.aload_n 0, 1) := by decide +kernel
theorem d_Tn_number_39 : decode b_Tn_number 39 = .ok (.invokevirtual 108, 3) := by decide +kernel
theorem d_Tn_number_42 : decode b_Tn_number 42 = .ok (.iadd, 1) := by decide +kernel
theorem d_Tn_number_43 : decode b_Tn_number 43 = .ok (.bipush 48, 2) := by decide +kernel
theorem d_Tn_number_45 : decode b_Tn_number 45 = .ok (.isub, 1) := by decide +kernel
theorem d_Tn_number_46 : decode b_Tn_number 46 = .ok (.istore_n 1, 1) := by decide +kernel
theorem d_Tn_number_47 : decode b_Tn_number 47 = .ok (.aload_n 0, 1) := by decide +kernel
theorem d_Tn_number_48 : decode b_Tn_number 48 = .ok (.dup, 1) := by decide +kernel
theorem d_Tn_number_49 : decode b_Tn_number 49 = .ok (.getfield 50, 3) := by decide +kernel
theorem d_Tn_number_52 : decode b_Tn_number 52 = .ok (.iconst 1, 1) := by decide +kernel
theorem d_Tn_number_53 : decode b_Tn_number 53 = .ok (.iadd, 1) := by decide +kernel
theorem d_Tn_number_54 : decode b_Tn_number 54 = .ok (.putfield 50, 3) := by decide +kernel
theorem d_Tn_number_57 : decode b_Tn_number 57 = .ok (.iload_n 1, 1) := by decide +kernel
theorem d_Tn_number_58 : decode b_Tn_number 58 = .ok (.ireturn, 1) := by decide +kernel
set_option maxRecDepth 20000 in
theorem c_Tn_number_b0 {r : Int32} {wz : gW} (C : gC p s m args meth c "RidCoppers$Town" b_Tn_number 2 (some .int) D cA oc B) (a0 : Nat) (w : gW) {ls : Array Slot} {H : Heap} {locs : List Loc} (hl : lv_has ls 2 [(0, .ref (B + a0))]) (hf : f_Tn_number_b0 N a0 w = some (r, wz)) (hR : gRep D cA B w H) (hS : va_S (gA B) s.heap H locs) : W p l e ({ frames := 3, cells := 0, slots := 0, locals := 80 } : Room) s m args below meth c H locs 0 0 (MQ below (gQi D cA B r wz) args s 0 0 (gA B)) (F0 m 0 ls []) := by
  obtain ⟨hx, hb, hml, hown, hts, hr, hlocks, hK, hBs⟩ := id C
  unfold f_Tn_number_b0 at hf
  refine lv_aload_n hx hb d_Tn_number_0 rfl (lv_at hl 0 rfl) ?_
  have ⟨h4, hf⟩ := gd_e hf
  have ⟨x1, w2, h3, hf⟩ := kl_e hf
  refine g_ki0 (g_rV (As := []) (rest := []) hx hb hml hown hts hK hR hS (c_Tn_isDigitAhead l D cA oc B N a0 w h3) I_Tn_isDigitAhead m_509 mp_10 (gRecv hK hR (ci := 7) rfl h4) rfl rfl (Nat.le_of_ble_eq_true rfl) hl.1 ⟨Nat.le_of_ble_eq_true rfl, Nat.le_of_ble_eq_true rfl⟩ ⟨Nat.le_of_ble_eq_true rfl, Nat.le_of_ble_eq_true rfl⟩ d_Tn_number_1) hS (fun H locs hR hS => ?_)
  refine lv_if_ne (tgt := 9) hx hb d_Tn_number_4 (by decide) (fun hc => ?_) (fun hc => ?_)
  · have hf := cd_f hc hf
    refine lv_aload_n hx hb d_Tn_number_9 rfl (lv_at hl 0 rfl) ?_
    have ⟨h8, hf⟩ := gd_e hf
    have ⟨x5, w6, h7, hf⟩ := kl_e hf
    refine g_ki0 (g_rV (As := []) (rest := []) hx hb hml hown hts hK hR hS (c_Tn_ahead l D cA oc B N a0 w2 h7) I_Tn_ahead m_442 mp_6 (gRecv hK hR (ci := 7) rfl h8) rfl rfl (Nat.le_of_ble_eq_true rfl) hl.1 ⟨Nat.le_of_ble_eq_true rfl, Nat.le_of_ble_eq_true rfl⟩ ⟨Nat.le_of_ble_eq_true rfl, Nat.le_of_ble_eq_true rfl⟩ d_Tn_number_10) hS (fun H locs hR hS => ?_)
    refine lv_bipush (v := 48) hx hb d_Tn_number_13 (by decide) ?_
    refine lv_isub hx hb d_Tn_number_15 ?_
    refine g_nI hf (fun x9 hf => ?_)
    refine lv_istore_n (lv' := [(1, .int x9), (0, .ref (B + a0))]) hx hb d_Tn_number_16 rfl hl (by decide) rfl (fun ls hl => ?_)
    refine lv_aload_n hx hb d_Tn_number_17 rfl (lv_at hl 1 rfl) ?_
    refine lv_dup hx hb d_Tn_number_18 rfl ?_
    have ⟨h10, hf⟩ := gd_e hf
    refine g_getI hx hb hts hown hK hR fl_Tn_50 (fun _ => rfl) h10 d_Tn_number_19 ?_
    refine g_nI hf (fun x11 hf => ?_)
    refine lv_iconst (v := 1) hx hb d_Tn_number_22 (by decide) ?_
    refine lv_iadd hx hb d_Tn_number_23 ?_
    refine g_nI hf (fun x12 hf => ?_)
    refine g_putI hx hb hts hown hK hR hS pf_Tn_50 (fun _ => rfl) rfl rfl h10 d_Tn_number_24 (fun H locs hR hS => ?_)
    refine g_nW hf hR (fun w13 hf hR => ?_)
    refine lv_aload_n hx hb d_Tn_number_27 rfl (lv_at hl 1 rfl) ?_
    have ⟨h17, hf⟩ := gd_e hf
    have ⟨x14, w15, h16, hf⟩ := kl_e hf
    refine g_ki0 (g_rV (As := []) (rest := []) hx hb hml hown hts hK hR hS (c_Tn_isDigitAhead l D cA oc B N a0 w13 h16) I_Tn_isDigitAhead m_509 mp_10 (gRecv hK hR (ci := 7) rfl h17) rfl rfl (Nat.le_of_ble_eq_true rfl) hl.1 ⟨Nat.le_of_ble_eq_true rfl, Nat.le_of_ble_eq_true rfl⟩ ⟨Nat.le_of_ble_eq_true rfl, Nat.le_of_ble_eq_true rfl⟩ d_Tn_number_28) hS (fun H locs hR hS => ?_)
    refine lv_if_eq (tgt := 57) hx hb d_Tn_number_31 (by decide) (fun hc => ?_) (fun hc => ?_)
    · have hf := cd_t hc hf
      refine lv_iload_n hx hb d_Tn_number_57 rfl (lv_at hl 0 rfl) ?_
      exact g_iret hx hb hr hlocks hR hS hf rfl d_Tn_number_58
    have hf := cd_f hc hf
    refine lv_iload_n hx hb d_Tn_number_34 rfl (lv_at hl 0 rfl) ?_
    refine lv_bipush (v := 10) hx hb d_Tn_number_35 (by decide) ?_
    refine lv_imul hx hb d_Tn_number_37 ?_
    refine g_nI hf (fun x18 hf => ?_)
    refine lv_aload_n hx hb d_Tn_number_38 rfl (lv_at hl 1 rfl) ?_
    have ⟨h22, hf⟩ := gd_e hf
    have ⟨x19, w20, h21, hf⟩ := kl_e hf
    refine g_ki0 (g_rV (As := []) (rest := [.int x18]) hx hb hml hown hts hK hR hS (c_Tn_ahead l D cA oc B N a0 w15 h21) I_Tn_ahead m_442 mp_6 (gRecv hK hR (ci := 7) rfl h22) rfl rfl (Nat.le_of_ble_eq_true rfl) hl.1 ⟨Nat.le_of_ble_eq_true rfl, Nat.le_of_ble_eq_true rfl⟩ ⟨Nat.le_of_ble_eq_true rfl, Nat.le_of_ble_eq_true rfl⟩ d_Tn_number_39) hS (fun H locs hR hS => ?_)
    refine lv_iadd hx hb d_Tn_number_42 ?_
    refine g_nI hf (fun x23 hf => ?_)
    refine lv_bipush (v := 48) hx hb d_Tn_number_43 (by decide) ?_
    refine lv_isub hx hb d_Tn_number_45 ?_
    refine g_nI hf (fun x24 hf => ?_)
    refine lv_istore_n (lv' := [(1, .int x24), (0, .ref (B + a0))]) hx hb d_Tn_number_46 rfl hl (by decide) rfl (fun ls hl => ?_)
    refine lv_aload_n hx hb d_Tn_number_47 rfl (lv_at hl 1 rfl) ?_
    refine lv_dup hx hb d_Tn_number_48 rfl ?_
    have ⟨h25, hf⟩ := gd_e hf
    refine g_getI hx hb hts hown hK hR fl_Tn_50 (fun _ => rfl) h25 d_Tn_number_49 ?_
    refine g_nI hf (fun x26 hf => ?_)
    refine lv_iconst (v := 1) hx hb d_Tn_number_52 (by decide) ?_
    refine lv_iadd hx hb d_Tn_number_53 ?_
    refine g_nI hf (fun x27 hf => ?_)
    refine g_putI hx hb hts hown hK hR hS pf_Tn_50 (fun _ => rfl) rfl rfl h25 d_Tn_number_54 (fun H locs hR hS => ?_)
    refine g_nW hf hR (fun w28 hf hR => ?_)
    refine lv_iload_n hx hb d_Tn_number_57 rfl (lv_at hl 0 rfl) ?_
    exact g_iret hx hb hr hlocks hR hS hf rfl d_Tn_number_58
  have hf := cd_t hc hf
  refine lv_iconst (v := (-1)) hx hb d_Tn_number_7 (by decide) ?_
  exact g_iret hx hb hr hlocks hR hS hf rfl d_Tn_number_8
theorem c_Tn_number (l : Launch) (D : va_G) (cA : Nat → ClassId) (oc : gO) (B N : Nat) (a0 : Nat) (w : gW) {wz : gW} {r : Int32} (hf : f_Tn_number N a0 w = some (r, wz)) : Met l y_Tn_number (Cond.code y_Tn_number b_Tn_number 2 (some .int) :: lw_good) ({ frames := 3, cells := 0, slots := 0, locals := 80 } : Room) (gPre D cA oc B [.ref (B + a0)] w) (gQi D cA B r wz) 0 0 (gA B) := by
  refine Met.ofW (cc := b_Tn_number) (maxL := 2) (ret := (some .int)) (by decide +kernel) rfl ?_
  intro p e s m args below meth c s₁ Bd hml hv
  obtain ⟨hargs, C, hR⟩ := gC.enter (l := l) rfl Bd hml hv
  subst hargs
  have hl := lv_entry ([.ref (B + a0)]) (n := 2) (Nat.le_of_ble_eq_true rfl)
  rw [lg_entry_eq]
  generalize (lg_sl ([.ref (B + a0)]) ++ List.replicate (2 - (lg_sl ([.ref (B + a0)])).length) Slot.unset).toArray = ls at hl ⊢
  have hl : lv_has ls 2 [(0, .ref (B + a0))] := hl
  exact c_Tn_number_b0 C a0 w (lv_sub hl [0] rfl) hf hR va_S.rf
theorem d_Tn_takesOneOf_0 : decode b_Tn_takesOneOf 0 = .ok (.aload_n 0, 1) := by decide +kernel
theorem d_Tn_takesOneOf_1 : decode b_Tn_takesOneOf 1 = .ok (.invokevirtual 108, 3) := by decide +kernel
theorem d_Tn_takesOneOf_4 : decode b_Tn_takesOneOf 4 = .ok (.istore_n 2, 1) := by decide +kernel
theorem d_Tn_takesOneOf_5 : decode b_Tn_takesOneOf 5 = .ok (.iload_n 2, 1) := by decide +kernel
theorem d_Tn_takesOneOf_6 : decode b_Tn_takesOneOf 6 = .ok (.ifCond .ge 7, 3) := by decide +kernel
theorem d_Tn_takesOneOf_9 : decode b_Tn_takesOneOf 9 = .ok (.iconst (-1), 1) := by decide +kernel
theorem d_Tn_takesOneOf_10 : decode b_Tn_takesOneOf 10 = .ok (.goto 9, 3) := by decide +kernel
theorem d_Tn_takesOneOf_13 : decode b_Tn_takesOneOf 13 = .ok (.aload_n 1, 1) := by decide +kernel
theorem d_Tn_takesOneOf_14 : decode b_Tn_takesOneOf 14 = .ok (.iload_n 2, 1) := by decide +kernel
theorem d_Tn_takesOneOf_15 : decode b_Tn_takesOneOf 15 = .ok (.i2c, 1) := by decide +kernel
theorem d_Tn_takesOneOf_16 : decode b_Tn_takesOneOf 16 = .ok (.invokevirtual 157, 3) := by decide +kernel
theorem d_Tn_takesOneOf_19 : decode b_Tn_takesOneOf 19 = .ok (.istore_n 3, 1) := by decide +kernel
theorem d_Tn_takesOneOf_20 : decode b_Tn_takesOneOf 20 = .ok (.iload_n 3, 1) := by decide +kernel
theorem d_Tn_takesOneOf_21 : decode b_Tn_takesOneOf 21 = .ok (.ifCond .lt 13, 3) := by decide +kernel
theorem d_Tn_takesOneOf_24 : decode b_Tn_takesOneOf 24 = .ok (.aload_n 0, 1) := by decide +kernel
theorem d_Tn_takesOneOf_25 : decode b_Tn_takesOneOf 25 = .ok (.dup, 1) := by decide +kernel
theorem d_Tn_takesOneOf_26 : decode b_Tn_takesOneOf 26 = .ok (.getfield 50, 3) := by decide +kernel
theorem d_Tn_takesOneOf_29 : decode b_Tn_takesOneOf 29 = .ok (.iconst 1, 1) := by decide +kernel
theorem d_Tn_takesOneOf_30 : decode b_Tn_takesOneOf 30 = .ok (.iadd, 1) := by decide +kernel
theorem d_Tn_takesOneOf_31 : decode b_Tn_takesOneOf 31 = .ok (.putfield 50, 3) := by decide +kernel
theorem d_Tn_takesOneOf_34 : decode b_Tn_takesOneOf 34 = .ok (.iload_n 3, 1) := by decide +kernel
theorem d_Tn_takesOneOf_35 : decode b_Tn_takesOneOf 35 = .ok (.ireturn, 1) := by decide +kernel
set_option maxRecDepth 20000 in
theorem c_Tn_takesOneOf_b19 {r : Int32} {wz : gW} (C : gC p s m args meth c "RidCoppers$Town" b_Tn_takesOneOf 4 (some .int) D cA oc B) (a0 : Nat) (z0 : Int32) (w : gW) {ls : Array Slot} {H : Heap} {locs : List Loc} (hl : lv_has ls 4 [(0, .ref (B + a0))]) (hf : f_Tn_takesOneOf_b19 N a0 z0 w = some (r, wz)) (hR : gRep D cA B w H) (hS : va_S (gA B) s.heap H locs) : W p l e ({ frames := 5, cells := 0, slots := 0, locals := 131 } : Room) s m args below meth c H locs 0 0 (MQ below (gQi D cA B r wz) args s 0 0 (gA B)) (F0 m 19 ls [.int z0]) := by
  obtain ⟨hx, hb, hml, hown, hts, hr, hlocks, hK, hBs⟩ := id C
  unfold f_Tn_takesOneOf_b19 at hf
  refine lv_istore_n (lv' := [(3, .int z0), (0, .ref (B + a0))]) hx hb d_Tn_takesOneOf_19 rfl hl (by decide) rfl (fun ls hl => ?_)
  refine lv_iload_n hx hb d_Tn_takesOneOf_20 rfl (lv_at hl 0 rfl) ?_
  refine lv_if_lt (tgt := 34) hx hb d_Tn_takesOneOf_21 (by decide) (fun hc => ?_) (fun hc => ?_)
  · have hf := cd_t hc hf
    refine lv_iload_n hx hb d_Tn_takesOneOf_34 rfl (lv_at hl 0 rfl) ?_
    exact g_iret hx hb hr hlocks hR hS hf rfl d_Tn_takesOneOf_35
  have hf := cd_f hc hf
  refine lv_aload_n hx hb d_Tn_takesOneOf_24 rfl (lv_at hl 1 rfl) ?_
  refine lv_dup hx hb d_Tn_takesOneOf_25 rfl ?_
  have ⟨h10, hf⟩ := gd_e hf
  refine g_getI hx hb hts hown hK hR fl_Tn_50 (fun _ => rfl) h10 d_Tn_takesOneOf_26 ?_
  refine g_nI hf (fun x11 hf => ?_)
  refine lv_iconst (v := 1) hx hb d_Tn_takesOneOf_29 (by decide) ?_
  refine lv_iadd hx hb d_Tn_takesOneOf_30 ?_
  refine g_nI hf (fun x12 hf => ?_)
  refine g_putI hx hb hts hown hK hR hS pf_Tn_50 (fun _ => rfl) rfl rfl h10 d_Tn_takesOneOf_31 (fun H locs hR hS => ?_)
  refine g_nW hf hR (fun w13 hf hR => ?_)
  refine lv_iload_n hx hb d_Tn_takesOneOf_34 rfl (lv_at hl 0 rfl) ?_
  exact g_iret hx hb hr hlocks hR hS hf rfl d_Tn_takesOneOf_35
set_option maxRecDepth 20000 in
theorem c_Tn_takesOneOf_b0 {r : Int32} {wz : gW} (C : gC p s m args meth c "RidCoppers$Town" b_Tn_takesOneOf 4 (some .int) D cA oc B) (a0 : Nat) (a1 : Nat) (w : gW) {ls : Array Slot} {H : Heap} {locs : List Loc} (hl : lv_has ls 4 [(0, .ref (B + a0)), (1, .ref (oc.2.1 a1))]) (hf : f_Tn_takesOneOf_b0 N a0 a1 w = some (r, wz)) (hR : gRep D cA B w H) (hS : va_S (gA B) s.heap H locs) : W p l e ({ frames := 5, cells := 0, slots := 0, locals := 131 } : Room) s m args below meth c H locs 0 0 (MQ below (gQi D cA B r wz) args s 0 0 (gA B)) (F0 m 0 ls []) := by
  obtain ⟨hx, hb, hml, hown, hts, hr, hlocks, hK, hBs⟩ := id C
  unfold f_Tn_takesOneOf_b0 at hf
  refine lv_aload_n hx hb d_Tn_takesOneOf_0 rfl (lv_at hl 0 rfl) ?_
  have ⟨h4, hf⟩ := gd_e hf
  have ⟨x1, w2, h3, hf⟩ := kl_e hf
  refine g_ki0 (g_rV (As := []) (rest := []) hx hb hml hown hts hK hR hS (c_Tn_ahead l D cA oc B N a0 w h3) I_Tn_ahead m_442 mp_6 (gRecv hK hR (ci := 7) rfl h4) rfl rfl (Nat.le_of_ble_eq_true rfl) hl.1 ⟨Nat.le_of_ble_eq_true rfl, Nat.le_of_ble_eq_true rfl⟩ ⟨Nat.le_of_ble_eq_true rfl, Nat.le_of_ble_eq_true rfl⟩ d_Tn_takesOneOf_1) hS (fun H locs hR hS => ?_)
  refine lv_istore_n (lv' := [(2, .int x1), (0, .ref (B + a0)), (1, .ref (oc.2.1 a1))]) hx hb d_Tn_takesOneOf_4 rfl hl (by decide) rfl (fun ls hl => ?_)
  refine lv_iload_n hx hb d_Tn_takesOneOf_5 rfl (lv_at hl 0 rfl) ?_
  refine lv_if_ge (tgt := 13) hx hb d_Tn_takesOneOf_6 (by decide) (fun hc => ?_) (fun hc => ?_)
  · have hf := cd_t hc hf
    refine lv_aload_n hx hb d_Tn_takesOneOf_13 rfl (lv_at hl 2 rfl) ?_
    refine lv_iload_n hx hb d_Tn_takesOneOf_14 rfl (lv_at hl 0 rfl) ?_
    refine lv_i2c hx hb d_Tn_takesOneOf_15 rfl ?_
    refine g_nI hf (fun x5 hf => ?_)
    have ⟨h9, hf⟩ := gd_e hf
    have ⟨x6, w7, h8, hf⟩ := kl_e hf
    refine g_ki0 (g_rV (As := [.int x5]) (rest := []) hx hb hml hown hts hK hR hS (c_S_indexOfi l D cA oc B N a1 x5 w2 h8) I_S_indexOfi m_534 m_536 (gRecvS hK hS h9) rfl rfl (Nat.le_of_ble_eq_true rfl) hl.1 ⟨Nat.le_of_ble_eq_true rfl, Nat.le_of_ble_eq_true rfl⟩ ⟨Nat.le_of_ble_eq_true rfl, Nat.le_of_ble_eq_true rfl⟩ d_Tn_takesOneOf_16) hS (fun H locs hR hS => ?_)
    exact c_Tn_takesOneOf_b19 C a0 x6 w7 (lv_sub hl [1] rfl) hf hR hS
  have hf := cd_f hc hf
  refine lv_iconst (v := (-1)) hx hb d_Tn_takesOneOf_9 (by decide) ?_
  refine lv_goto (tgt := 19) hx hb d_Tn_takesOneOf_10 (by decide) ?_
  exact c_Tn_takesOneOf_b19 C a0 (-1) w2 (lv_sub hl [1] rfl) hf hR hS
theorem c_Tn_takesOneOf (l : Launch) (D : va_G) (cA : Nat → ClassId) (oc : gO) (B N : Nat) (a0 : Nat) (a1 : Nat) (w : gW) {wz : gW} {r : Int32} (hf : f_Tn_takesOneOf N a0 a1 w = some (r, wz)) : Met l y_Tn_takesOneOf (Cond.code y_Tn_takesOneOf b_Tn_takesOneOf 4 (some .int) :: lw_good) ({ frames := 5, cells := 0, slots := 0, locals := 131 } : Room) (gPre D cA oc B [.ref (B + a0), .ref (oc.2.1 a1)] w) (gQi D cA B r wz) 0 0 (gA B) := by
  refine Met.ofW (cc := b_Tn_takesOneOf) (maxL := 4) (ret := (some .int)) (by decide +kernel) rfl ?_
  intro p e s m args below meth c s₁ Bd hml hv
  obtain ⟨hargs, C, hR⟩ := gC.enter (l := l) rfl Bd hml hv
  subst hargs
  have hl := lv_entry ([.ref (B + a0), .ref (oc.2.1 a1)]) (n := 4) (Nat.le_of_ble_eq_true rfl)
  rw [lg_entry_eq]
  generalize (lg_sl ([.ref (B + a0), .ref (oc.2.1 a1)]) ++ List.replicate (4 - (lg_sl ([.ref (B + a0), .ref (oc.2.1 a1)])).length) Slot.unset).toArray = ls at hl ⊢
  have hl : lv_has ls 4 [(0, .ref (B + a0)), (1, .ref (oc.2.1 a1))] := hl
  exact c_Tn_takesOneOf_b0 C a0 a1 w (lv_sub hl [0, 1] rfl) hf hR va_S.rf
theorem d_Tn_test_0 : decode b_Tn_test 0 = .ok (.aload_n 0, 1) := by decide +kernel
theorem d_Tn_test_1 : decode b_Tn_test 1 = .ok (.ldc 146, 2) := by decide +kernel
theorem d_Tn_test_3 : decode b_Tn_test 3 = .ok (.invokevirtual 148, 3) := by decide +kernel
theorem d_Tn_test_6 : decode b_Tn_test 6 = .ok (.istore_n 1, 1) := by decide +kernel
theorem d_Tn_test_7 : decode b_Tn_test 7 = .ok (.iload_n 1, 1) := by decide +kernel
theorem d_Tn_test_8 : decode b_Tn_test 8 = .ok (.ifCond .ge 5, 3) := by decide +kernel
theorem d_Tn_test_11 : decode b_Tn_test 11 = .ok (.iconst 0, 1) := by decide +kernel
theorem d_Tn_test_12 : decode b_Tn_test 12 = .ok (.ireturn, 1) := by decide +kernel
theorem d_Tn_test_13 : decode b_Tn_test 13 = .ok (.aload_n 0, 1) := by decide +kernel
theorem d_Tn_test_14 : decode b_Tn_test 14 = .ok (.ldc 152, 2) := by decide +kernel
theorem d_Tn_test_16 : decode b_Tn_test 16 = .ok (.invokevirtual 148, 3) := by decide +kernel
theorem d_Tn_test_19 : decode b_Tn_test 19 = .ok (.istore_n 2, 1) := by decide +kernel
theorem d_Tn_test_20 : decode b_Tn_test 20 = .ok (.iload_n 2, 1) := by decide +kernel
theorem d_Tn_test_21 : decode b_Tn_test 21 = .ok (.ifCond .ge 5, 3) := by decide +kernel
theorem d_Tn_test_24 : decode b_Tn_test 24 = .ok (.iconst 0, 1) := by decide +kernel
theorem d_Tn_test_25 : decode b_Tn_test 25 = .ok (.ireturn, 1) := by decide +kernel
theorem d_Tn_test_26 : decode b_Tn_test 26 = .ok (.aload_n 0, 1) := by decide +kernel
theorem d_Tn_test_27 : decode b_Tn_test 27 = .ok (.invokevirtual 115, 3) := by decide +kernel
theorem d_Tn_test_30 : decode b_Tn_test 30 = .ok (.istore_n 3, 1) := by decide +kernel
theorem d_Tn_test_31 : decode b_Tn_test 31 = .ok (.iload_n 3, 1) := by decide +kernel
theorem d_Tn_test_32 : decode b_Tn_test 32 = .ok (.ifCond .ge 5, 3) := by decide +kernel
theorem d_Tn_test_35 : decode b_Tn_test 35 = .ok (.iconst 0, 1) := by decide +kernel
theorem d_Tn_test_36 : decode b_Tn_test 36 = .ok (.ireturn, 1) := by decide +kernel
theorem d_Tn_test_37 : decode b_Tn_test 37 = .ok (.aload_n 0, 1) := by decide +kernel
theorem d_Tn_test_38 : decode b_Tn_test 38 = .ok (.iconst 3, 1) := by decide +kernel
theorem d_Tn_test_39 : decode b_Tn_test 39 = .ok (.iload_n 1, 1) := by decide +kernel
theorem d_Tn_test_40 : decode b_Tn_test 40 = .ok (.sipush 300, 3) := by decide +kernel
theorem d_Tn_test_43 : decode b_Tn_test 43 = .ok (.imul, 1) := by decide +kernel
theorem d_Tn_test_44 : decode b_Tn_test 44 = .ok (.iadd, 1) := by decide +kernel
theorem d_Tn_test_45 : decode b_Tn_test 45 = .ok (.iload_n 2, 1) := by decide +kernel
theorem d_Tn_test_46 : decode b_Tn_test 46 = .ok (.bipush 100, 2) := by decide +kernel
theorem d_Tn_test_48 : decode b_Tn_test 48 = .ok (.imul, 1) := by decide +kernel
theorem d_Tn_test_49 : decode b_Tn_test 49 = .ok (.iadd, 1) := by decide +kernel
theorem d_Tn_test_50 : decode b_Tn_test 50 = .ok (.iload_n 3, 1) := by decide +kernel
theorem d_Tn_test_51 : decode b_Tn_test 51 = .ok (.iadd, 1) := by decide +kernel
theorem d_Tn_test_52 : decode b_Tn_test 52 = .ok (.invokevirtual 137, 3) := by decide +kernel
theorem d_Tn_test_55 : decode b_Tn_test 55 = .ok (.iconst 1, 1) := by decide +kernel
theorem d_Tn_test_56 : decode b_Tn_test 56 = .ok (.ireturn, 1) := by decide +kernel
set_option maxRecDepth 20000 in
theorem c_Tn_test_b0 {r : Int32} {wz : gW} (C : gC p s m args meth c "RidCoppers$Town" b_Tn_test 4 (some .boolean) D cA oc B) (a0 : Nat) (w : gW) {ls : Array Slot} {H : Heap} {locs : List Loc} (hl : lv_has ls 4 [(0, .ref (B + a0))]) (hf : f_Tn_test_b0 N a0 w = some (r, wz)) (hR : gRep D cA B w H) (hS : va_S (gA B) s.heap H locs) : W p l e ({ frames := 6, cells := 0, slots := 0, locals := 154 } : Room) s m args below meth c H locs 0 0 (MQ below (gQi D cA B r wz) args s 0 0 (gA B)) (F0 m 0 ls []) := by
  obtain ⟨hx, hb, hml, hown, hts, hr, hlocks, hK, hBs⟩ := id C
  unfold f_Tn_test_b0 at hf
  refine lv_aload_n hx hb d_Tn_test_0 rfl (lv_at hl 0 rfl) ?_
  refine va_ldcS hx hb hown hK.2.2.1.2.2.2.1 d_Tn_test_1 ?_
  have ⟨h4, hf⟩ := gd_e hf
  have ⟨x1, w2, h3, hf⟩ := kl_e hf
  refine g_ki0 (g_rV (As := [.ref (oc.2.1 3)]) (rest := []) hx hb hml hown hts hK hR hS (c_Tn_takesOneOf l D cA oc B N a0 3 w h3) I_Tn_takesOneOf m_530 mp_15 (gRecv hK hR (ci := 7) rfl h4) rfl rfl (Nat.le_of_ble_eq_true rfl) hl.1 ⟨Nat.le_of_ble_eq_true rfl, Nat.le_of_ble_eq_true rfl⟩ ⟨Nat.le_of_ble_eq_true rfl, Nat.le_of_ble_eq_true rfl⟩ d_Tn_test_3) hS (fun H locs hR hS => ?_)
  refine lv_istore_n (lv' := [(1, .int x1), (0, .ref (B + a0))]) hx hb d_Tn_test_6 rfl hl (by decide) rfl (fun ls hl => ?_)
  refine lv_iload_n hx hb d_Tn_test_7 rfl (lv_at hl 0 rfl) ?_
  refine lv_if_ge (tgt := 13) hx hb d_Tn_test_8 (by decide) (fun hc => ?_) (fun hc => ?_)
  · have hf := cd_t hc hf
    refine lv_aload_n hx hb d_Tn_test_13 rfl (lv_at hl 1 rfl) ?_
    refine va_ldcS hx hb hown hK.2.2.1.2.2.2.2 d_Tn_test_14 ?_
    have ⟨h8, hf⟩ := gd_e hf
    have ⟨x5, w6, h7, hf⟩ := kl_e hf
    refine g_ki0 (g_rV (As := [.ref (oc.2.1 4)]) (rest := []) hx hb hml hown hts hK hR hS (c_Tn_takesOneOf l D cA oc B N a0 4 w2 h7) I_Tn_takesOneOf m_530 mp_15 (gRecv hK hR (ci := 7) rfl h8) rfl rfl (Nat.le_of_ble_eq_true rfl) hl.1 ⟨Nat.le_of_ble_eq_true rfl, Nat.le_of_ble_eq_true rfl⟩ ⟨Nat.le_of_ble_eq_true rfl, Nat.le_of_ble_eq_true rfl⟩ d_Tn_test_16) hS (fun H locs hR hS => ?_)
    refine lv_istore_n (lv' := [(2, .int x5), (1, .int x1), (0, .ref (B + a0))]) hx hb d_Tn_test_19 rfl hl (by decide) rfl (fun ls hl => ?_)
    refine lv_iload_n hx hb d_Tn_test_20 rfl (lv_at hl 0 rfl) ?_
    refine lv_if_ge (tgt := 26) hx hb d_Tn_test_21 (by decide) (fun hc => ?_) (fun hc => ?_)
    · have hf := cd_t hc hf
      refine lv_aload_n hx hb d_Tn_test_26 rfl (lv_at hl 2 rfl) ?_
      have ⟨h12, hf⟩ := gd_e hf
      have ⟨x9, w10, h11, hf⟩ := kl_e hf
      refine g_ki0 (g_rV (As := []) (rest := []) hx hb hml hown hts hK hR hS (c_Tn_number l D cA oc B N a0 w6 h11) I_Tn_number m_505 mp_9 (gRecv hK hR (ci := 7) rfl h12) rfl rfl (Nat.le_of_ble_eq_true rfl) hl.1 ⟨Nat.le_of_ble_eq_true rfl, Nat.le_of_ble_eq_true rfl⟩ ⟨Nat.le_of_ble_eq_true rfl, Nat.le_of_ble_eq_true rfl⟩ d_Tn_test_27) hS (fun H locs hR hS => ?_)
      refine lv_istore_n (lv' := [(3, .int x9), (2, .int x5), (1, .int x1), (0, .ref (B + a0))]) hx hb d_Tn_test_30 rfl hl (by decide) rfl (fun ls hl => ?_)
      refine lv_iload_n hx hb d_Tn_test_31 rfl (lv_at hl 0 rfl) ?_
      refine lv_if_ge (tgt := 37) hx hb d_Tn_test_32 (by decide) (fun hc => ?_) (fun hc => ?_)
      · have hf := cd_t hc hf
        refine lv_aload_n hx hb d_Tn_test_37 rfl (lv_at hl 3 rfl) ?_
        refine lv_iconst (v := 3) hx hb d_Tn_test_38 (by decide) ?_
        refine lv_iload_n hx hb d_Tn_test_39 rfl (lv_at hl 2 rfl) ?_
        refine lv_sipush (v := 300) hx hb d_Tn_test_40 (by decide) ?_
        refine lv_imul hx hb d_Tn_test_43 ?_
        refine g_nI hf (fun x13 hf => ?_)
        refine lv_iadd hx hb d_Tn_test_44 ?_
        refine g_nI hf (fun x14 hf => ?_)
        refine lv_iload_n hx hb d_Tn_test_45 rfl (lv_at hl 1 rfl) ?_
        refine lv_bipush (v := 100) hx hb d_Tn_test_46 (by decide) ?_
        refine lv_imul hx hb d_Tn_test_48 ?_
        refine g_nI hf (fun x15 hf => ?_)
        refine lv_iadd hx hb d_Tn_test_49 ?_
        refine g_nI hf (fun x16 hf => ?_)
        refine lv_iload_n hx hb d_Tn_test_50 rfl (lv_at hl 0 rfl) ?_
        refine lv_iadd hx hb d_Tn_test_51 ?_
        refine g_nI hf (fun x17 hf => ?_)
        have ⟨h21, hf⟩ := gd_e hf
        have ⟨x18, w19, h20, hf⟩ := kl_e hf
        refine g_kv0 (g_rV (As := [.int x17]) (rest := []) hx hb hml hown hts hK hR hS (c_Tn_emit l D cA oc B N a0 x17 w10 h20) I_Tn_emit m_594 mp_16 (gRecv hK hR (ci := 7) rfl h21) rfl rfl (Nat.le_of_ble_eq_true rfl) hl.1 ⟨Nat.le_of_ble_eq_true rfl, Nat.le_of_ble_eq_true rfl⟩ ⟨Nat.le_of_ble_eq_true rfl, Nat.le_of_ble_eq_true rfl⟩ d_Tn_test_52) hS (fun H locs hR hS => ?_)
        refine lv_iconst (v := 1) hx hb d_Tn_test_55 (by decide) ?_
        exact g_iret hx hb hr hlocks hR hS hf rfl d_Tn_test_56
      have hf := cd_f hc hf
      refine lv_iconst (v := 0) hx hb d_Tn_test_35 (by decide) ?_
      exact g_iret hx hb hr hlocks hR hS hf rfl d_Tn_test_36
    have hf := cd_f hc hf
    refine lv_iconst (v := 0) hx hb d_Tn_test_24 (by decide) ?_
    exact g_iret hx hb hr hlocks hR hS hf rfl d_Tn_test_25
  have hf := cd_f hc hf
  refine lv_iconst (v := 0) hx hb d_Tn_test_11 (by decide) ?_
  exact g_iret hx hb hr hlocks hR hS hf rfl d_Tn_test_12
theorem c_Tn_test (l : Launch) (D : va_G) (cA : Nat → ClassId) (oc : gO) (B N : Nat) (a0 : Nat) (w : gW) {wz : gW} {r : Int32} (hf : f_Tn_test N a0 w = some (r, wz)) : Met l y_Tn_test (Cond.code y_Tn_test b_Tn_test 4 (some .boolean) :: lw_good) ({ frames := 6, cells := 0, slots := 0, locals := 154 } : Room) (gPre D cA oc B [.ref (B + a0)] w) (gQi D cA B r wz) 0 0 (gA B) := by
  refine Met.ofW (cc := b_Tn_test) (maxL := 4) (ret := (some .boolean)) (by decide +kernel) rfl ?_
  intro p e s m args below meth c s₁ Bd hml hv
  obtain ⟨hargs, C, hR⟩ := gC.enter (l := l) rfl Bd hml hv
  subst hargs
  have hl := lv_entry ([.ref (B + a0)]) (n := 4) (Nat.le_of_ble_eq_true rfl)
  rw [lg_entry_eq]
  generalize (lg_sl ([.ref (B + a0)]) ++ List.replicate (4 - (lg_sl ([.ref (B + a0)])).length) Slot.unset).toArray = ls at hl ⊢
  have hl : lv_has ls 4 [(0, .ref (B + a0))] := hl
  exact c_Tn_test_b0 C a0 w (lv_sub hl [0] rfl) hf hR va_S.rf
theorem d_Tn_either_0 : decode b_Tn_either 0 = .ok (.aload_n 0, 1) := by decide +kernel
theorem d_Tn_either_1 : decode b_Tn_either 1 = .ok (.iload_n 1, 1) := by decide +kernel
theorem d_Tn_either_2 : decode b_Tn_either 2 = .ok (.invokevirtual 134, 3) := by decide +kernel
theorem d_Tn_either_5 : decode b_Tn_either 5 = .ok (.istore_n 2, 1) := by decide +kernel
theorem d_Tn_either_6 : decode b_Tn_either 6 = .ok (.iconst 0, 1) := by decide +kernel
theorem d_Tn_either_7 : decode b_Tn_either 7 = .ok (.istore_n 3, 1) := by decide +kernel
theorem d_Tn_either_8 : decode b_Tn_either 8 = .ok (.iload_n 3, 1) := by decide +kernel
theorem d_Tn_either_9 : decode b_Tn_either 9 = .ok (.bipush 100, 2) := by decide +kernel
theorem d_Tn_either_11 : decode b_Tn_either 11 = .ok (.if_icmp .ge 43, 3) := by decide +kernel
theorem d_Tn_either_14 : decode b_Tn_either 14 = .ok (.iload_n 2, 1) := by decide +kernel
theorem d_Tn_either_15 : decode b_Tn_either 15 = .ok (.ifCond .eq 39, 3) := by decide +kernel
theorem d_Tn_either_18 : decode b_Tn_either 18 = .ok (.aload_n 0, 1) := by decide +kernel
theorem d_Tn_either_19 : decode b_Tn_either 19 = .ok (.invokevirtual 108, 3) := by decide +kernel
theorem d_Tn_either_22 : decode b_Tn_either 22 = .ok (.bipush 124, 2) := by decide +kernel
theorem d_Tn_either_24 : decode b_Tn_either 24 = .ok (.if_icmp .ne 30, 3) := by decide +kernel
theorem d_Tn_either_27 : decode b_Tn_either 27 = .ok (.aload_n 0, 1) := by decide +kernel
theorem d_Tn_either_28 : decode b_Tn_either 28 = .ok (.dup, 1) := by decide +kernel
theorem d_Tn_either_29 : decode b_Tn_either 29 = .ok (.getfield 50, 3) := by decide +kernel
theorem d_Tn_either_32 : decode b_Tn_either 32 = .ok (.iconst 1, 1) := by decide +kernel
theorem d_Tn_either_33 : decode b_Tn_either 33 = .ok (.iadd, 1) := by decide +kernel
theorem d_Tn_either_34 : decode b_Tn_either 34 = .ok (.putfield 50, 3) := by decide +kernel
theorem d_Tn_either_37 : decode b_Tn_either 37 = .ok (.aload_n 0, 1) := by decide +kernel
theorem d_Tn_either_38 : decode b_Tn_either 38 = .ok (.iload_n 1, 1) := by decide +kernel
theorem d_Tn_either_39 : decode b_Tn_either 39 = .ok (.invokevirtual 134, 3) := by decide +kernel
theorem d_Tn_either_42 : decode b_Tn_either 42 = .ok (.istore_n 2, 1) := by decide +kernel
theorem d_Tn_either_43 : decode b_Tn_either 43 = .ok (.aload_n 0, 1) := by decide +kernel
theorem d_Tn_either_44 : decode b_Tn_either 44 = .ok (.iconst 0, 1) := by decide +kernel
theorem d_Tn_either_45 : decode b_Tn_either 45 = .ok (.invokevirtual 137, 3) := by decide +kernel
theorem d_Tn_either_48 : decode b_Tn_either 48 = .ok (.iinc 3 1, 3) := by decide +kernel
theorem d_Tn_either_51 : decode b_Tn_either 51 = .ok (.goto (-43), 3) := by decide +kernel
theorem d_Tn_either_54 : decode b_Tn_either 54 = .ok (.iload_n 2, 1) := by decide +kernel
theorem d_Tn_either_55 : decode b_Tn_either 55 = .ok (.ireturn, 1) := by decide +kernel
def c_grp (l : Launch) (D : va_G) (cA : Nat → ClassId) (oc : gO) (B : Nat) (dd lab a0 : Nat) (a1 : Int32) (w wz : gW) (r : Int32) : Prop := (lab = 0 → Met l y_Tn_either (Cond.code y_Tn_either b_Tn_either 4 (some .boolean) :: lw_good) ({ frames := 7 + 2 * dd, cells := 0, slots := 0, locals := 177 + 40 * dd } : Room) (gPre D cA oc B [.ref (B + a0), .int a1] w) (gQi D cA B r wz) 0 0 (gA B)) ∧ (lab = 1 → Met l y_Tn_both (Cond.code y_Tn_both b_Tn_both 4 (some .boolean) :: lw_good) ({ frames := 7 + 2 * dd, cells := 0, slots := 0, locals := 177 + 40 * dd } : Room) (gPre D cA oc B [.ref (B + a0), .int a1] w) (gQi D cA B r wz) 0 0 (gA B)) ∧ (lab = 2 → Met l y_Tn_single (Cond.code y_Tn_single b_Tn_single 4 (some .boolean) :: lw_good) ({ frames := 7 + 2 * dd, cells := 0, slots := 0, locals := 177 + 40 * dd } : Room) (gPre D cA oc B [.ref (B + a0), .int a1] w) (gQi D cA B r wz) 0 0 (gA B))
set_option maxRecDepth 20000 in
theorem c_Tn_either_b8 {rcg : Nat × Nat × Int32 × gW → Option (Int32 × gW)} {r : Int32} {wz : gW} {dd : Nat} (hg : ∀ (lab a0 : Nat) (a1 : Int32) (w wz : gW) (r : Int32), rcg (lab, a0, a1, w) = some (r, wz) → lab < 3 → c_grp l D cA oc B dd lab a0 a1 w wz r) {rec8 : Nat × Int32 × Int32 × Int32 × gW → Option (Int32 × gW)} (ih8 : ∀ (a0 : Nat) (a1 : Int32) (a2 : Int32) (a3 : Int32) (w : gW) (ls : Array Slot) (H : Heap) (locs : List Loc), rec8 (a0, a1, a2, a3, w) = some (r, wz) → lv_has ls 4 [(0, .ref (B + a0)), (1, .int a1), (2, .int a2), (3, .int a3)] → gRep D cA B w H → va_S (gA B) s.heap H locs → W p l e ({ frames := 7 + 2 * (dd + 1), cells := 0, slots := 0, locals := 177 + 40 * (dd + 1) } : Room) s m args below meth c H locs 0 0 (MQ below (gQi D cA B r wz) args s 0 0 (gA B)) (F0 m 8 ls [])) (C : gC p s m args meth c "RidCoppers$Town" b_Tn_either 4 (some .boolean) D cA oc B) (a0 : Nat) (a1 : Int32) (a2 : Int32) (a3 : Int32) (w : gW) {ls : Array Slot} {H : Heap} {locs : List Loc} (hl : lv_has ls 4 [(0, .ref (B + a0)), (1, .int a1), (2, .int a2), (3, .int a3)]) (hf : f_Tn_either_b8 N rcg rec8 a0 a1 a2 a3 w = some (r, wz)) (hR : gRep D cA B w H) (hS : va_S (gA B) s.heap H locs) : W p l e ({ frames := 7 + 2 * (dd + 1), cells := 0, slots := 0, locals := 177 + 40 * (dd + 1) } : Room) s m args below meth c H locs 0 0 (MQ below (gQi D cA B r wz) args s 0 0 (gA B)) (F0 m 8 ls []) := by
  obtain ⟨hx, hb, hml, hown, hts, hr, hlocks, hK, hBs⟩ := id C
  unfold f_Tn_either_b8 at hf
  refine lv_iload_n hx hb d_Tn_either_8 rfl (lv_at hl 3 rfl) ?_
  refine lv_bipush (v := 100) hx hb d_Tn_either_9 (by decide) ?_
  refine lv_icmp_ge (tgt := 54) hx hb d_Tn_either_11 (by decide) (fun hc => ?_) (fun hc => ?_)
  · have hf := cd_t hc hf
    refine lv_iload_n hx hb d_Tn_either_54 rfl (lv_at hl 2 rfl) ?_
    have ⟨h5, hf⟩ := gd_e hf
    exact g_iret hx hb hr hlocks hR hS hf (nb01 h5) d_Tn_either_55
  have hf := cd_f hc hf
  refine lv_iload_n hx hb d_Tn_either_14 rfl (lv_at hl 2 rfl) ?_
  refine lv_if_eq (tgt := 54) hx hb d_Tn_either_15 (by decide) (fun hc => ?_) (fun hc => ?_)
  · have hf := cd_t hc hf
    refine lv_iload_n hx hb d_Tn_either_54 rfl (lv_at hl 2 rfl) ?_
    have ⟨h6, hf⟩ := gd_e hf
    exact g_iret hx hb hr hlocks hR hS hf (nb01 h6) d_Tn_either_55
  have hf := cd_f hc hf
  refine lv_aload_n hx hb d_Tn_either_18 rfl (lv_at hl 0 rfl) ?_
  have ⟨h10, hf⟩ := gd_e hf
  have ⟨x7, w8, h9, hf⟩ := kl_e hf
  refine g_ki0 (g_rV (As := []) (rest := []) hx hb hml hown hts hK hR hS (c_Tn_ahead l D cA oc B N a0 w h9) I_Tn_ahead m_442 mp_6 (gRecv hK hR (ci := 7) rfl h10) rfl rfl (Nat.le_of_ble_eq_true rfl) hl.1 ⟨Nat.le_trans (m := 7) (Nat.le_of_ble_eq_true rfl) (Nat.le_add_right _ _), Nat.le_trans (m := 177) (Nat.le_of_ble_eq_true rfl) (Nat.le_add_right _ _)⟩ ⟨Nat.le_of_ble_eq_true rfl, Nat.le_of_ble_eq_true rfl⟩ d_Tn_either_19) hS (fun H locs hR hS => ?_)
  refine lv_bipush (v := 124) hx hb d_Tn_either_22 (by decide) ?_
  refine lv_icmp_ne (tgt := 54) hx hb d_Tn_either_24 (by decide) (fun hc => ?_) (fun hc => ?_)
  · have hf := cd_f hc hf
    refine lv_iload_n hx hb d_Tn_either_54 rfl (lv_at hl 2 rfl) ?_
    have ⟨h11, hf⟩ := gd_e hf
    exact g_iret hx hb hr hlocks hR hS hf (nb01 h11) d_Tn_either_55
  have hf := cd_t hc hf
  refine lv_aload_n hx hb d_Tn_either_27 rfl (lv_at hl 0 rfl) ?_
  refine lv_dup hx hb d_Tn_either_28 rfl ?_
  have ⟨h12, hf⟩ := gd_e hf
  refine g_getI hx hb hts hown hK hR fl_Tn_50 (fun _ => rfl) h12 d_Tn_either_29 ?_
  refine g_nI hf (fun x13 hf => ?_)
  refine lv_iconst (v := 1) hx hb d_Tn_either_32 (by decide) ?_
  refine lv_iadd hx hb d_Tn_either_33 ?_
  refine g_nI hf (fun x14 hf => ?_)
  refine g_putI hx hb hts hown hK hR hS pf_Tn_50 (fun _ => rfl) rfl rfl h12 d_Tn_either_34 (fun H locs hR hS => ?_)
  refine g_nW hf hR (fun w15 hf hR => ?_)
  refine lv_aload_n hx hb d_Tn_either_37 rfl (lv_at hl 0 rfl) ?_
  refine lv_iload_n hx hb d_Tn_either_38 rfl (lv_at hl 1 rfl) ?_
  have ⟨h19, hf⟩ := gd_e hf
  have ⟨x16, w17, h18, hf⟩ := kl_e hf
  refine g_ki0 (g_rV (As := [.int a1]) (rest := []) (b := B + a0) (rm := { frames := 7 + 2 * dd, cells := 0, slots := 0, locals := 177 + 40 * dd }) hx hb hml hown hts hK hR hS ((hg 1 a0 a1 w15 _ _ h18 (by decide)).2.1 rfl) I_Tn_both m_517 mp_12 (gRecv hK hR (ci := 7) rfl h19) rfl rfl (Nat.le_of_ble_eq_true rfl) hl.1 ⟨by show 7 + 2 * dd + 1 ≤ 7 + 2 * (dd + 1); omega, by show 8 + (4 + 11) + (177 + 40 * dd) ≤ 177 + 40 * (dd + 1); omega⟩ ⟨Nat.le_of_ble_eq_true rfl, Nat.le_of_ble_eq_true rfl⟩ d_Tn_either_39) hS (fun H locs hR hS => ?_)
  refine lv_istore_n (lv' := [(2, .int x16), (0, .ref (B + a0)), (1, .int a1), (3, .int a3)]) hx hb d_Tn_either_42 rfl hl (by decide) rfl (fun ls hl => ?_)
  refine lv_aload_n hx hb d_Tn_either_43 rfl (lv_at hl 1 rfl) ?_
  refine lv_iconst (v := 0) hx hb d_Tn_either_44 (by decide) ?_
  have ⟨h23, hf⟩ := gd_e hf
  have ⟨x20, w21, h22, hf⟩ := kl_e hf
  refine g_kv0 (g_rV (As := [.int 0]) (rest := []) hx hb hml hown hts hK hR hS (c_Tn_emit l D cA oc B N a0 0 w17 h22) I_Tn_emit m_594 mp_16 (gRecv hK hR (ci := 7) rfl h23) rfl rfl (Nat.le_of_ble_eq_true rfl) hl.1 ⟨Nat.le_trans (m := 7) (Nat.le_of_ble_eq_true rfl) (Nat.le_add_right _ _), Nat.le_trans (m := 177) (Nat.le_of_ble_eq_true rfl) (Nat.le_add_right _ _)⟩ ⟨Nat.le_of_ble_eq_true rfl, Nat.le_of_ble_eq_true rfl⟩ d_Tn_either_45) hS (fun H locs hR hS => ?_)
  refine g_iinc (lv' := fun x24 => [(3, .int x24), (2, .int x16), (0, .ref (B + a0)), (1, .int a1)]) hf hx hb d_Tn_either_48 hl (k := 3) rfl (by decide) (by decide) (fun _ => rfl) (fun x24 ls hf hl => ?_)
  refine lv_goto (tgt := 8) hx hb d_Tn_either_51 (by decide) ?_
  exact ih8 a0 a1 x16 x24 w21 _ _ _ hf (lv_sub hl [2, 3, 1, 0] rfl) hR hS
theorem c_Tn_either_l8 {rcg : Nat × Nat × Int32 × gW → Option (Int32 × gW)} {r : Int32} {wz : gW} {dd : Nat} (hg : ∀ (lab a0 : Nat) (a1 : Int32) (w wz : gW) (r : Int32), rcg (lab, a0, a1, w) = some (r, wz) → lab < 3 → c_grp l D cA oc B dd lab a0 a1 w wz r) (C : gC p s m args meth c "RidCoppers$Town" b_Tn_either 4 (some .boolean) D cA oc B) (a0 : Nat) (a1 : Int32) (a2 : Int32) (a3 : Int32) (w : gW) {ls : Array Slot} {H : Heap} {locs : List Loc} (hl : lv_has ls 4 [(0, .ref (B + a0)), (1, .int a1), (2, .int a2), (3, .int a3)]) (hf : f_Tn_either_l8 N rcg a0 a1 a2 a3 w = some (r, wz)) (hR : gRep D cA B w H) (hS : va_S (gA B) s.heap H locs) : W p l e ({ frames := 7 + 2 * (dd + 1), cells := 0, slots := 0, locals := 177 + 40 * (dd + 1) } : Room) s m args below meth c H locs 0 0 (MQ below (gQi D cA B r wz) args s 0 0 (gA B)) (F0 m 8 ls []) := by
  unfold f_Tn_either_l8 at hf
  suffices hh : ∀ n : Nat, ∀ (a0 : Nat) (a1 : Int32) (a2 : Int32) (a3 : Int32) (w : gW) (ls : Array Slot) (H : Heap) (locs : List Loc), itr (fun rec (q : Nat × Int32 × Int32 × Int32 × gW) => f_Tn_either_b8 N rcg rec q.1 q.2.1 q.2.2.1 q.2.2.2.1 q.2.2.2.2) n (a0, a1, a2, a3, w) = some (r, wz) → lv_has ls 4 [(0, .ref (B + a0)), (1, .int a1), (2, .int a2), (3, .int a3)] → gRep D cA B w H → va_S (gA B) s.heap H locs → W p l e ({ frames := 7 + 2 * (dd + 1), cells := 0, slots := 0, locals := 177 + 40 * (dd + 1) } : Room) s m args below meth c H locs 0 0 (MQ below (gQi D cA B r wz) args s 0 0 (gA B)) (F0 m 8 ls []) from hh N a0 a1 a2 a3 w ls H locs hf hl hR hS
  intro n
  induction n with
  | zero => intro a0 a1 a2 a3 w ls H locs hf; cases hf
  | succ n ihn =>
    intro a0 a1 a2 a3 w ls H locs hf hl hR hS
    exact c_Tn_either_b8 (N := N) hg ihn C a0 a1 a2 a3 w hl ((itr_s _ _ _).symm.trans hf) hR hS
set_option maxRecDepth 20000 in
theorem c_Tn_either_b0 {rcg : Nat × Nat × Int32 × gW → Option (Int32 × gW)} {r : Int32} {wz : gW} {dd : Nat} (hg : ∀ (lab a0 : Nat) (a1 : Int32) (w wz : gW) (r : Int32), rcg (lab, a0, a1, w) = some (r, wz) → lab < 3 → c_grp l D cA oc B dd lab a0 a1 w wz r) (C : gC p s m args meth c "RidCoppers$Town" b_Tn_either 4 (some .boolean) D cA oc B) (a0 : Nat) (a1 : Int32) (w : gW) {ls : Array Slot} {H : Heap} {locs : List Loc} (hl : lv_has ls 4 [(0, .ref (B + a0)), (1, .int a1)]) (hf : f_Tn_either_b0 N rcg a0 a1 w = some (r, wz)) (hR : gRep D cA B w H) (hS : va_S (gA B) s.heap H locs) : W p l e ({ frames := 7 + 2 * (dd + 1), cells := 0, slots := 0, locals := 177 + 40 * (dd + 1) } : Room) s m args below meth c H locs 0 0 (MQ below (gQi D cA B r wz) args s 0 0 (gA B)) (F0 m 0 ls []) := by
  obtain ⟨hx, hb, hml, hown, hts, hr, hlocks, hK, hBs⟩ := id C
  unfold f_Tn_either_b0 at hf
  refine lv_aload_n hx hb d_Tn_either_0 rfl (lv_at hl 0 rfl) ?_
  refine lv_iload_n hx hb d_Tn_either_1 rfl (lv_at hl 1 rfl) ?_
  have ⟨h4, hf⟩ := gd_e hf
  have ⟨x1, w2, h3, hf⟩ := kl_e hf
  refine g_ki0 (g_rV (As := [.int a1]) (rest := []) (b := B + a0) (rm := { frames := 7 + 2 * dd, cells := 0, slots := 0, locals := 177 + 40 * dd }) hx hb hml hown hts hK hR hS ((hg 1 a0 a1 w _ _ h3 (by decide)).2.1 rfl) I_Tn_both m_517 mp_12 (gRecv hK hR (ci := 7) rfl h4) rfl rfl (Nat.le_of_ble_eq_true rfl) hl.1 ⟨by show 7 + 2 * dd + 1 ≤ 7 + 2 * (dd + 1); omega, by show 8 + (4 + 11) + (177 + 40 * dd) ≤ 177 + 40 * (dd + 1); omega⟩ ⟨Nat.le_of_ble_eq_true rfl, Nat.le_of_ble_eq_true rfl⟩ d_Tn_either_2) hS (fun H locs hR hS => ?_)
  refine lv_istore_n (lv' := [(2, .int x1), (0, .ref (B + a0)), (1, .int a1)]) hx hb d_Tn_either_5 rfl hl (by decide) rfl (fun ls hl => ?_)
  refine lv_iconst (v := 0) hx hb d_Tn_either_6 (by decide) ?_
  refine lv_istore_n (lv' := [(3, .int 0), (2, .int x1), (0, .ref (B + a0)), (1, .int a1)]) hx hb d_Tn_either_7 rfl hl (by decide) rfl (fun ls hl => ?_)
  exact c_Tn_either_l8 hg C a0 a1 x1 0 w2 (lv_sub hl [2, 3, 1, 0] rfl) hf hR hS
theorem d_Tn_both_0 : decode b_Tn_both 0 = .ok (.aload_n 0, 1) := by decide +kernel
theorem d_Tn_both_1 : decode b_Tn_both 1 = .ok (.iload_n 1, 1) := by decide +kernel
theorem d_Tn_both_2 : decode b_Tn_both 2 = .ok (.invokevirtual 140, 3) := by decide +kernel
theorem d_Tn_both_5 : decode b_Tn_both 5 = .ok (.istore_n 2, 1) := by decide +kernel
theorem d_Tn_both_6 : decode b_Tn_both 6 = .ok (.iconst 0, 1) := by decide +kernel
theorem d_Tn_both_7 : decode b_Tn_both 7 = .ok (.istore_n 3, 1) := by decide +kernel
theorem d_Tn_both_8 : decode b_Tn_both 8 = .ok (.iload_n 3, 1) := by decide +kernel
theorem d_Tn_both_9 : decode b_Tn_both 9 = .ok (.bipush 100, 2) := by decide +kernel
theorem d_Tn_both_11 : decode b_Tn_both 11 = .ok (.if_icmp .ge 43, 3) := by decide +kernel
theorem d_Tn_both_14 : decode b_Tn_both 14 = .ok (.iload_n 2, 1) := by decide +kernel
theorem d_Tn_both_15 : decode b_Tn_both 15 = .ok (.ifCond .eq 39, 3) := by decide +kernel
theorem d_Tn_both_18 : decode b_Tn_both 18 = .ok (.aload_n 0, 1) := by decide +kernel
theorem d_Tn_both_19 : decode b_Tn_both 19 = .ok (.invokevirtual 108, 3) := by decide +kernel
theorem d_Tn_both_22 : decode b_Tn_both 22 = .ok (.bipush 38, 2) := by decide +kernel
theorem d_Tn_both_24 : decode b_Tn_both 24 = .ok (.if_icmp .ne 30, 3) := by decide +kernel
theorem d_Tn_both_27 : decode b_Tn_both 27 = .ok (.aload_n 0, 1) := by decide +kernel
theorem d_Tn_both_28 : decode b_Tn_both 28 = .ok (.dup, 1) := by decide +kernel
theorem d_Tn_both_29 : decode b_Tn_both 29 = .ok (.getfield 50, 3) := by decide +kernel
theorem d_Tn_both_32 : decode b_Tn_both 32 = .ok (.iconst 1, 1) := by decide +kernel
theorem d_Tn_both_33 : decode b_Tn_both 33 = .ok (.iadd, 1) := by decide +kernel
theorem d_Tn_both_34 : decode b_Tn_both 34 = .ok (.putfield 50, 3) := by decide +kernel
theorem d_Tn_both_37 : decode b_Tn_both 37 = .ok (.aload_n 0, 1) := by decide +kernel
theorem d_Tn_both_38 : decode b_Tn_both 38 = .ok (.iload_n 1, 1) := by decide +kernel
theorem d_Tn_both_39 : decode b_Tn_both 39 = .ok (.invokevirtual 140, 3) := by decide +kernel
theorem d_Tn_both_42 : decode b_Tn_both 42 = .ok (.istore_n 2, 1) := by decide +kernel
theorem d_Tn_both_43 : decode b_Tn_both 43 = .ok (.aload_n 0, 1) := by decide +kernel
theorem d_Tn_both_44 : decode b_Tn_both 44 = .ok (.iconst 1, 1) := by decide +kernel
theorem d_Tn_both_45 : decode b_Tn_both 45 = .ok (.invokevirtual 137, 3) := by decide +kernel
theorem d_Tn_both_48 : decode b_Tn_both 48 = .ok (.iinc 3 1, 3) := by decide +kernel
theorem d_Tn_both_51 : decode b_Tn_both 51 = .ok (.goto (-43), 3) := by decide +kernel
theorem d_Tn_both_54 : decode b_Tn_both 54 = .ok (.iload_n 2, 1) := by decide +kernel
theorem d_Tn_both_55 : decode b_Tn_both 55 = .ok (.ireturn, 1) := by decide +kernel
set_option maxRecDepth 20000 in
theorem c_Tn_both_b8 {rcg : Nat × Nat × Int32 × gW → Option (Int32 × gW)} {r : Int32} {wz : gW} {dd : Nat} (hg : ∀ (lab a0 : Nat) (a1 : Int32) (w wz : gW) (r : Int32), rcg (lab, a0, a1, w) = some (r, wz) → lab < 3 → c_grp l D cA oc B dd lab a0 a1 w wz r) {rec8 : Nat × Int32 × Int32 × Int32 × gW → Option (Int32 × gW)} (ih8 : ∀ (a0 : Nat) (a1 : Int32) (a2 : Int32) (a3 : Int32) (w : gW) (ls : Array Slot) (H : Heap) (locs : List Loc), rec8 (a0, a1, a2, a3, w) = some (r, wz) → lv_has ls 4 [(0, .ref (B + a0)), (1, .int a1), (2, .int a2), (3, .int a3)] → gRep D cA B w H → va_S (gA B) s.heap H locs → W p l e ({ frames := 7 + 2 * (dd + 1), cells := 0, slots := 0, locals := 177 + 40 * (dd + 1) } : Room) s m args below meth c H locs 0 0 (MQ below (gQi D cA B r wz) args s 0 0 (gA B)) (F0 m 8 ls [])) (C : gC p s m args meth c "RidCoppers$Town" b_Tn_both 4 (some .boolean) D cA oc B) (a0 : Nat) (a1 : Int32) (a2 : Int32) (a3 : Int32) (w : gW) {ls : Array Slot} {H : Heap} {locs : List Loc} (hl : lv_has ls 4 [(0, .ref (B + a0)), (1, .int a1), (2, .int a2), (3, .int a3)]) (hf : f_Tn_both_b8 N rcg rec8 a0 a1 a2 a3 w = some (r, wz)) (hR : gRep D cA B w H) (hS : va_S (gA B) s.heap H locs) : W p l e ({ frames := 7 + 2 * (dd + 1), cells := 0, slots := 0, locals := 177 + 40 * (dd + 1) } : Room) s m args below meth c H locs 0 0 (MQ below (gQi D cA B r wz) args s 0 0 (gA B)) (F0 m 8 ls []) := by
  obtain ⟨hx, hb, hml, hown, hts, hr, hlocks, hK, hBs⟩ := id C
  unfold f_Tn_both_b8 at hf
  refine lv_iload_n hx hb d_Tn_both_8 rfl (lv_at hl 3 rfl) ?_
  refine lv_bipush (v := 100) hx hb d_Tn_both_9 (by decide) ?_
  refine lv_icmp_ge (tgt := 54) hx hb d_Tn_both_11 (by decide) (fun hc => ?_) (fun hc => ?_)
  · have hf := cd_t hc hf
    refine lv_iload_n hx hb d_Tn_both_54 rfl (lv_at hl 2 rfl) ?_
    have ⟨h5, hf⟩ := gd_e hf
    exact g_iret hx hb hr hlocks hR hS hf (nb01 h5) d_Tn_both_55
  have hf := cd_f hc hf
  refine lv_iload_n hx hb d_Tn_both_14 rfl (lv_at hl 2 rfl) ?_
  refine lv_if_eq (tgt := 54) hx hb d_Tn_both_15 (by decide) (fun hc => ?_) (fun hc => ?_)
  · have hf := cd_t hc hf
    refine lv_iload_n hx hb d_Tn_both_54 rfl (lv_at hl 2 rfl) ?_
    have ⟨h6, hf⟩ := gd_e hf
    exact g_iret hx hb hr hlocks hR hS hf (nb01 h6) d_Tn_both_55
  have hf := cd_f hc hf
  refine lv_aload_n hx hb d_Tn_both_18 rfl (lv_at hl 0 rfl) ?_
  have ⟨h10, hf⟩ := gd_e hf
  have ⟨x7, w8, h9, hf⟩ := kl_e hf
  refine g_ki0 (g_rV (As := []) (rest := []) hx hb hml hown hts hK hR hS (c_Tn_ahead l D cA oc B N a0 w h9) I_Tn_ahead m_442 mp_6 (gRecv hK hR (ci := 7) rfl h10) rfl rfl (Nat.le_of_ble_eq_true rfl) hl.1 ⟨Nat.le_trans (m := 7) (Nat.le_of_ble_eq_true rfl) (Nat.le_add_right _ _), Nat.le_trans (m := 177) (Nat.le_of_ble_eq_true rfl) (Nat.le_add_right _ _)⟩ ⟨Nat.le_of_ble_eq_true rfl, Nat.le_of_ble_eq_true rfl⟩ d_Tn_both_19) hS (fun H locs hR hS => ?_)
  refine lv_bipush (v := 38) hx hb d_Tn_both_22 (by decide) ?_
  refine lv_icmp_ne (tgt := 54) hx hb d_Tn_both_24 (by decide) (fun hc => ?_) (fun hc => ?_)
  · have hf := cd_f hc hf
    refine lv_iload_n hx hb d_Tn_both_54 rfl (lv_at hl 2 rfl) ?_
    have ⟨h11, hf⟩ := gd_e hf
    exact g_iret hx hb hr hlocks hR hS hf (nb01 h11) d_Tn_both_55
  have hf := cd_t hc hf
  refine lv_aload_n hx hb d_Tn_both_27 rfl (lv_at hl 0 rfl) ?_
  refine lv_dup hx hb d_Tn_both_28 rfl ?_
  have ⟨h12, hf⟩ := gd_e hf
  refine g_getI hx hb hts hown hK hR fl_Tn_50 (fun _ => rfl) h12 d_Tn_both_29 ?_
  refine g_nI hf (fun x13 hf => ?_)
  refine lv_iconst (v := 1) hx hb d_Tn_both_32 (by decide) ?_
  refine lv_iadd hx hb d_Tn_both_33 ?_
  refine g_nI hf (fun x14 hf => ?_)
  refine g_putI hx hb hts hown hK hR hS pf_Tn_50 (fun _ => rfl) rfl rfl h12 d_Tn_both_34 (fun H locs hR hS => ?_)
  refine g_nW hf hR (fun w15 hf hR => ?_)
  refine lv_aload_n hx hb d_Tn_both_37 rfl (lv_at hl 0 rfl) ?_
  refine lv_iload_n hx hb d_Tn_both_38 rfl (lv_at hl 1 rfl) ?_
  have ⟨h19, hf⟩ := gd_e hf
  have ⟨x16, w17, h18, hf⟩ := kl_e hf
  refine g_ki0 (g_rV (As := [.int a1]) (rest := []) (b := B + a0) (rm := { frames := 7 + 2 * dd, cells := 0, slots := 0, locals := 177 + 40 * dd }) hx hb hml hown hts hK hR hS ((hg 2 a0 a1 w15 _ _ h18 (by decide)).2.2 rfl) I_Tn_single m_521 mp_13 (gRecv hK hR (ci := 7) rfl h19) rfl rfl (Nat.le_of_ble_eq_true rfl) hl.1 ⟨by show 7 + 2 * dd + 1 ≤ 7 + 2 * (dd + 1); omega, by show 8 + (4 + 11) + (177 + 40 * dd) ≤ 177 + 40 * (dd + 1); omega⟩ ⟨Nat.le_of_ble_eq_true rfl, Nat.le_of_ble_eq_true rfl⟩ d_Tn_both_39) hS (fun H locs hR hS => ?_)
  refine lv_istore_n (lv' := [(2, .int x16), (0, .ref (B + a0)), (1, .int a1), (3, .int a3)]) hx hb d_Tn_both_42 rfl hl (by decide) rfl (fun ls hl => ?_)
  refine lv_aload_n hx hb d_Tn_both_43 rfl (lv_at hl 1 rfl) ?_
  refine lv_iconst (v := 1) hx hb d_Tn_both_44 (by decide) ?_
  have ⟨h23, hf⟩ := gd_e hf
  have ⟨x20, w21, h22, hf⟩ := kl_e hf
  refine g_kv0 (g_rV (As := [.int 1]) (rest := []) hx hb hml hown hts hK hR hS (c_Tn_emit l D cA oc B N a0 1 w17 h22) I_Tn_emit m_594 mp_16 (gRecv hK hR (ci := 7) rfl h23) rfl rfl (Nat.le_of_ble_eq_true rfl) hl.1 ⟨Nat.le_trans (m := 7) (Nat.le_of_ble_eq_true rfl) (Nat.le_add_right _ _), Nat.le_trans (m := 177) (Nat.le_of_ble_eq_true rfl) (Nat.le_add_right _ _)⟩ ⟨Nat.le_of_ble_eq_true rfl, Nat.le_of_ble_eq_true rfl⟩ d_Tn_both_45) hS (fun H locs hR hS => ?_)
  refine g_iinc (lv' := fun x24 => [(3, .int x24), (2, .int x16), (0, .ref (B + a0)), (1, .int a1)]) hf hx hb d_Tn_both_48 hl (k := 3) rfl (by decide) (by decide) (fun _ => rfl) (fun x24 ls hf hl => ?_)
  refine lv_goto (tgt := 8) hx hb d_Tn_both_51 (by decide) ?_
  exact ih8 a0 a1 x16 x24 w21 _ _ _ hf (lv_sub hl [2, 3, 1, 0] rfl) hR hS
theorem c_Tn_both_l8 {rcg : Nat × Nat × Int32 × gW → Option (Int32 × gW)} {r : Int32} {wz : gW} {dd : Nat} (hg : ∀ (lab a0 : Nat) (a1 : Int32) (w wz : gW) (r : Int32), rcg (lab, a0, a1, w) = some (r, wz) → lab < 3 → c_grp l D cA oc B dd lab a0 a1 w wz r) (C : gC p s m args meth c "RidCoppers$Town" b_Tn_both 4 (some .boolean) D cA oc B) (a0 : Nat) (a1 : Int32) (a2 : Int32) (a3 : Int32) (w : gW) {ls : Array Slot} {H : Heap} {locs : List Loc} (hl : lv_has ls 4 [(0, .ref (B + a0)), (1, .int a1), (2, .int a2), (3, .int a3)]) (hf : f_Tn_both_l8 N rcg a0 a1 a2 a3 w = some (r, wz)) (hR : gRep D cA B w H) (hS : va_S (gA B) s.heap H locs) : W p l e ({ frames := 7 + 2 * (dd + 1), cells := 0, slots := 0, locals := 177 + 40 * (dd + 1) } : Room) s m args below meth c H locs 0 0 (MQ below (gQi D cA B r wz) args s 0 0 (gA B)) (F0 m 8 ls []) := by
  unfold f_Tn_both_l8 at hf
  suffices hh : ∀ n : Nat, ∀ (a0 : Nat) (a1 : Int32) (a2 : Int32) (a3 : Int32) (w : gW) (ls : Array Slot) (H : Heap) (locs : List Loc), itr (fun rec (q : Nat × Int32 × Int32 × Int32 × gW) => f_Tn_both_b8 N rcg rec q.1 q.2.1 q.2.2.1 q.2.2.2.1 q.2.2.2.2) n (a0, a1, a2, a3, w) = some (r, wz) → lv_has ls 4 [(0, .ref (B + a0)), (1, .int a1), (2, .int a2), (3, .int a3)] → gRep D cA B w H → va_S (gA B) s.heap H locs → W p l e ({ frames := 7 + 2 * (dd + 1), cells := 0, slots := 0, locals := 177 + 40 * (dd + 1) } : Room) s m args below meth c H locs 0 0 (MQ below (gQi D cA B r wz) args s 0 0 (gA B)) (F0 m 8 ls []) from hh N a0 a1 a2 a3 w ls H locs hf hl hR hS
  intro n
  induction n with
  | zero => intro a0 a1 a2 a3 w ls H locs hf; cases hf
  | succ n ihn =>
    intro a0 a1 a2 a3 w ls H locs hf hl hR hS
    exact c_Tn_both_b8 (N := N) hg ihn C a0 a1 a2 a3 w hl ((itr_s _ _ _).symm.trans hf) hR hS
set_option maxRecDepth 20000 in
theorem c_Tn_both_b0 {rcg : Nat × Nat × Int32 × gW → Option (Int32 × gW)} {r : Int32} {wz : gW} {dd : Nat} (hg : ∀ (lab a0 : Nat) (a1 : Int32) (w wz : gW) (r : Int32), rcg (lab, a0, a1, w) = some (r, wz) → lab < 3 → c_grp l D cA oc B dd lab a0 a1 w wz r) (C : gC p s m args meth c "RidCoppers$Town" b_Tn_both 4 (some .boolean) D cA oc B) (a0 : Nat) (a1 : Int32) (w : gW) {ls : Array Slot} {H : Heap} {locs : List Loc} (hl : lv_has ls 4 [(0, .ref (B + a0)), (1, .int a1)]) (hf : f_Tn_both_b0 N rcg a0 a1 w = some (r, wz)) (hR : gRep D cA B w H) (hS : va_S (gA B) s.heap H locs) : W p l e ({ frames := 7 + 2 * (dd + 1), cells := 0, slots := 0, locals := 177 + 40 * (dd + 1) } : Room) s m args below meth c H locs 0 0 (MQ below (gQi D cA B r wz) args s 0 0 (gA B)) (F0 m 0 ls []) := by
  obtain ⟨hx, hb, hml, hown, hts, hr, hlocks, hK, hBs⟩ := id C
  unfold f_Tn_both_b0 at hf
  refine lv_aload_n hx hb d_Tn_both_0 rfl (lv_at hl 0 rfl) ?_
  refine lv_iload_n hx hb d_Tn_both_1 rfl (lv_at hl 1 rfl) ?_
  have ⟨h4, hf⟩ := gd_e hf
  have ⟨x1, w2, h3, hf⟩ := kl_e hf
  refine g_ki0 (g_rV (As := [.int a1]) (rest := []) (b := B + a0) (rm := { frames := 7 + 2 * dd, cells := 0, slots := 0, locals := 177 + 40 * dd }) hx hb hml hown hts hK hR hS ((hg 2 a0 a1 w _ _ h3 (by decide)).2.2 rfl) I_Tn_single m_521 mp_13 (gRecv hK hR (ci := 7) rfl h4) rfl rfl (Nat.le_of_ble_eq_true rfl) hl.1 ⟨by show 7 + 2 * dd + 1 ≤ 7 + 2 * (dd + 1); omega, by show 8 + (4 + 11) + (177 + 40 * dd) ≤ 177 + 40 * (dd + 1); omega⟩ ⟨Nat.le_of_ble_eq_true rfl, Nat.le_of_ble_eq_true rfl⟩ d_Tn_both_2) hS (fun H locs hR hS => ?_)
  refine lv_istore_n (lv' := [(2, .int x1), (0, .ref (B + a0)), (1, .int a1)]) hx hb d_Tn_both_5 rfl hl (by decide) rfl (fun ls hl => ?_)
  refine lv_iconst (v := 0) hx hb d_Tn_both_6 (by decide) ?_
  refine lv_istore_n (lv' := [(3, .int 0), (2, .int x1), (0, .ref (B + a0)), (1, .int a1)]) hx hb d_Tn_both_7 rfl hl (by decide) rfl (fun ls hl => ?_)
  exact c_Tn_both_l8 hg C a0 a1 x1 0 w2 (lv_sub hl [2, 3, 1, 0] rfl) hf hR hS
theorem d_Tn_single_0 : decode b_Tn_single 0 = .ok (.aload_n 0, 1) := by decide +kernel
theorem d_Tn_single_1 : decode b_Tn_single 1 = .ok (.invokevirtual 108, 3) := by decide +kernel
theorem d_Tn_single_4 : decode b_Tn_single 4 = .ok (.istore_n 2, 1) := by decide +kernel
theorem d_Tn_single_5 : decode b_Tn_single 5 = .ok (.iload_n 2, 1) := by decide +kernel
theorem d_Tn_single_6 : decode b_Tn_single 6 = .ok (.bipush 33, 2) := by decide +kernel
theorem d_Tn_single_8 : decode b_Tn_single 8 = .ok (.if_icmp .eq 14, 3) := by decide +kernel
theorem d_Tn_single_11 : decode b_Tn_single 11 = .ok (.iload_n 2, 1) := by decide +kernel
theorem d_Tn_single_12 : decode b_Tn_single 12 = .ok (.bipush 40, 2) := by decide +kernel
theorem d_Tn_single_14 : decode b_Tn_single 14 = .ok (.if_icmp .eq 8, 3) := by decide +kernel
theorem d_Tn_single_17 : decode b_Tn_single 17 = .ok (.aload_n 0, 1) := by decide +kernel
theorem d_Tn_single_18 : decode b_Tn_single 18 = .ok (.invokevirtual 143, 3) := by decide +kernel
theorem d_Tn_single_21 : decode b_Tn_single 21 = .ok (.ireturn, 1) := by decide +kernel
theorem d_Tn_single_22 : decode b_Tn_single 22 = .ok (.iload_n 1, 1) := by decide +kernel
theorem d_Tn_single_23 : decode b_Tn_single 23 = .ok (.iconst 4, 1) := by decide +kernel
theorem d_Tn_single_24 : decode b_Tn_single 24 = .ok (.if_icmp .lt 5, 3) := by decide +kernel
theorem d_Tn_single_27 : decode b_Tn_single 27 = .ok (.iconst 0, 1) := by decide +kernel
theorem d_Tn_single_28 : decode b_Tn_single 28 = .ok (.ireturn, 1) := by decide +kernel
theorem d_Tn_single_29 : decode b_Tn_single 29 = .ok (.aload_n 0, 1) := by decide +kernel
theorem d_Tn_single_30 : decode b_Tn_single 30 = .ok (.dup, 1) := by decide +kernel
theorem d_Tn_single_31 : decode b_Tn_single 31 = .ok (.getfield 50, 3) := by decide +kernel
theorem d_Tn_single_34 : decode b_Tn_single 34 = .ok (.iconst 1, 1) := by decide +kernel
theorem d_Tn_single_35 : decode b_Tn_single 35 = .ok (.iadd, 1) := by decide +kernel
theorem d_Tn_single_36 : decode b_Tn_single 36 = .ok (.putfield 50, 3) := by decide +kernel
theorem d_Tn_single_39 : decode b_Tn_single 39 = .ok (.iload_n 2, 1) := by decide +kernel
theorem d_Tn_single_40 : decode b_Tn_single 40 = .ok (.bipush 40, 2) := by decide +kernel
theorem d_Tn_single_42 : decode b_Tn_single 42 = .ok (.if_icmp .ne 28, 3) := by decide +kernel
theorem d_Tn_single_45 : decode b_Tn_single 45 = .ok (.aload_n 0, 1) := by decide +kernel
theorem d_Tn_single_46 : decode b_Tn_single 46 = .ok (.iload_n 1, 1) := by decide +kernel
theorem d_Tn_single_47 : decode b_Tn_single 47 = .ok (.iconst 1, 1) := by decide +kernel
theorem d_Tn_single_48 : decode b_Tn_single 48 = .ok (.iadd, 1) := by decide +kernel
theorem d_Tn_single_49 : decode b_Tn_single 49 = .ok (.invokevirtual 117, 3) := by decide +kernel
theorem d_Tn_single_52 : decode b_Tn_single 52 = .ok (.ifCond .eq 16, 3) := by decide +kernel
theorem d_Tn_single_55 : decode b_Tn_single 55 = .ok (.aload_n 0, 1) := by decide +kernel
theorem d_Tn_single_56 : decode b_Tn_single 56 = .ok (.bipush 41, 2) := by decide +kernel
theorem d_Tn_single_58 : decode b_Tn_single 58 = .ok (.invokevirtual 57, 3) := by decide +kernel
theorem d_Tn_single_61 : decode b_Tn_single 61 = .ok (.ifCond .eq 7, 3) := by decide +kernel
theorem d_Tn_single_64 : decode b_Tn_single 64 = .ok (.iconst 1, 1) := by decide +kernel
theorem d_Tn_single_65 : decode b_Tn_single 65 = .ok (.goto 4, 3) := by decide +kernel
theorem d_Tn_single_68 : decode b_Tn_single 68 = .ok (.iconst 0, 1) := by decide +kernel
theorem d_Tn_single_69 : decode b_Tn_single 69 = .ok (.ireturn, 1) := by decide +kernel
theorem d_Tn_single_70 : decode b_Tn_single 70 = .ok (.aload_n 0, 1) := by decide +kernel
theorem d_Tn_single_71 : decode b_Tn_single 71 = .ok (.iload_n 1, 1) := by decide +kernel
theorem d_Tn_single_72 : decode b_Tn_single 72 = .ok (.iconst 1, 1) := by decide +kernel
theorem d_Tn_single_73 : decode b_Tn_single 73 = .ok (.iadd, 1) := by decide +kernel
theorem d_Tn_single_74 : decode b_Tn_single 74 = .ok (.invokevirtual 140, 3) := by decide +kernel
theorem d_Tn_single_77 : decode b_Tn_single 77 = .ok (.istore_n 3, 1) := by decide +kernel
theorem d_Tn_single_78 : decode b_Tn_single 78 = .ok (.aload_n 0, 1) := by decide +kernel
theorem d_Tn_single_79 : decode b_Tn_single 79 = .ok (.iconst 2, 1) := by decide +kernel
theorem d_Tn_single_80 : decode b_Tn_single 80 = .ok (.invokevirtual 137, 3) := by decide +kernel
theorem d_Tn_single_83 : decode b_Tn_single 83 = .ok (.iload_n 3, 1) := by decide +kernel
theorem d_Tn_single_84 : decode b_Tn_single 84 = .ok (.ireturn, 1) := by decide +kernel
set_option maxRecDepth 20000 in
theorem c_Tn_single_b22 {rcg : Nat × Nat × Int32 × gW → Option (Int32 × gW)} {r : Int32} {wz : gW} {dd : Nat} (hg : ∀ (lab a0 : Nat) (a1 : Int32) (w wz : gW) (r : Int32), rcg (lab, a0, a1, w) = some (r, wz) → lab < 3 → c_grp l D cA oc B dd lab a0 a1 w wz r) (C : gC p s m args meth c "RidCoppers$Town" b_Tn_single 4 (some .boolean) D cA oc B) (a0 : Nat) (a1 : Int32) (a2 : Int32) (w : gW) {ls : Array Slot} {H : Heap} {locs : List Loc} (hl : lv_has ls 4 [(0, .ref (B + a0)), (1, .int a1), (2, .int a2)]) (hf : f_Tn_single_b22 N rcg a0 a1 a2 w = some (r, wz)) (hR : gRep D cA B w H) (hS : va_S (gA B) s.heap H locs) : W p l e ({ frames := 7 + 2 * (dd + 1), cells := 0, slots := 0, locals := 177 + 40 * (dd + 1) } : Room) s m args below meth c H locs 0 0 (MQ below (gQi D cA B r wz) args s 0 0 (gA B)) (F0 m 22 ls []) := by
  obtain ⟨hx, hb, hml, hown, hts, hr, hlocks, hK, hBs⟩ := id C
  unfold f_Tn_single_b22 at hf
  refine lv_iload_n hx hb d_Tn_single_22 rfl (lv_at hl 1 rfl) ?_
  refine lv_iconst (v := 4) hx hb d_Tn_single_23 (by decide) ?_
  refine lv_icmp_lt (tgt := 29) hx hb d_Tn_single_24 (by decide) (fun hc => ?_) (fun hc => ?_)
  · have hf := cd_t hc hf
    refine lv_aload_n hx hb d_Tn_single_29 rfl (lv_at hl 0 rfl) ?_
    refine lv_dup hx hb d_Tn_single_30 rfl ?_
    have ⟨h5, hf⟩ := gd_e hf
    refine g_getI hx hb hts hown hK hR fl_Tn_50 (fun _ => rfl) h5 d_Tn_single_31 ?_
    refine g_nI hf (fun x6 hf => ?_)
    refine lv_iconst (v := 1) hx hb d_Tn_single_34 (by decide) ?_
    refine lv_iadd hx hb d_Tn_single_35 ?_
    refine g_nI hf (fun x7 hf => ?_)
    refine g_putI hx hb hts hown hK hR hS pf_Tn_50 (fun _ => rfl) rfl rfl h5 d_Tn_single_36 (fun H locs hR hS => ?_)
    refine g_nW hf hR (fun w8 hf hR => ?_)
    refine lv_iload_n hx hb d_Tn_single_39 rfl (lv_at hl 2 rfl) ?_
    refine lv_bipush (v := 40) hx hb d_Tn_single_40 (by decide) ?_
    refine lv_icmp_ne (tgt := 70) hx hb d_Tn_single_42 (by decide) (fun hc => ?_) (fun hc => ?_)
    · have hf := cd_f hc hf
      refine lv_aload_n hx hb d_Tn_single_70 rfl (lv_at hl 0 rfl) ?_
      refine lv_iload_n hx hb d_Tn_single_71 rfl (lv_at hl 1 rfl) ?_
      refine lv_iconst (v := 1) hx hb d_Tn_single_72 (by decide) ?_
      refine lv_iadd hx hb d_Tn_single_73 ?_
      refine g_nI hf (fun x9 hf => ?_)
      have ⟨h13, hf⟩ := gd_e hf
      have ⟨x10, w11, h12, hf⟩ := kl_e hf
      refine g_ki0 (g_rV (As := [.int x9]) (rest := []) (b := B + a0) (rm := { frames := 7 + 2 * dd, cells := 0, slots := 0, locals := 177 + 40 * dd }) hx hb hml hown hts hK hR hS ((hg 2 a0 x9 w8 _ _ h12 (by decide)).2.2 rfl) I_Tn_single m_521 mp_13 (gRecv hK hR (ci := 7) rfl h13) rfl rfl (Nat.le_of_ble_eq_true rfl) hl.1 ⟨by show 7 + 2 * dd + 1 ≤ 7 + 2 * (dd + 1); omega, by show 8 + (4 + 11) + (177 + 40 * dd) ≤ 177 + 40 * (dd + 1); omega⟩ ⟨Nat.le_of_ble_eq_true rfl, Nat.le_of_ble_eq_true rfl⟩ d_Tn_single_74) hS (fun H locs hR hS => ?_)
      refine lv_istore_n (lv' := [(3, .int x10), (0, .ref (B + a0)), (1, .int a1), (2, .int a2)]) hx hb d_Tn_single_77 rfl hl (by decide) rfl (fun ls hl => ?_)
      refine lv_aload_n hx hb d_Tn_single_78 rfl (lv_at hl 1 rfl) ?_
      refine lv_iconst (v := 2) hx hb d_Tn_single_79 (by decide) ?_
      have ⟨h17, hf⟩ := gd_e hf
      have ⟨x14, w15, h16, hf⟩ := kl_e hf
      refine g_kv0 (g_rV (As := [.int 2]) (rest := []) hx hb hml hown hts hK hR hS (c_Tn_emit l D cA oc B N a0 2 w11 h16) I_Tn_emit m_594 mp_16 (gRecv hK hR (ci := 7) rfl h17) rfl rfl (Nat.le_of_ble_eq_true rfl) hl.1 ⟨Nat.le_trans (m := 7) (Nat.le_of_ble_eq_true rfl) (Nat.le_add_right _ _), Nat.le_trans (m := 177) (Nat.le_of_ble_eq_true rfl) (Nat.le_add_right _ _)⟩ ⟨Nat.le_of_ble_eq_true rfl, Nat.le_of_ble_eq_true rfl⟩ d_Tn_single_80) hS (fun H locs hR hS => ?_)
      refine lv_iload_n hx hb d_Tn_single_83 rfl (lv_at hl 0 rfl) ?_
      have ⟨h18, hf⟩ := gd_e hf
      exact g_iret hx hb hr hlocks hR hS hf (nb01 h18) d_Tn_single_84
    have hf := cd_t hc hf
    refine lv_aload_n hx hb d_Tn_single_45 rfl (lv_at hl 0 rfl) ?_
    refine lv_iload_n hx hb d_Tn_single_46 rfl (lv_at hl 1 rfl) ?_
    refine lv_iconst (v := 1) hx hb d_Tn_single_47 (by decide) ?_
    refine lv_iadd hx hb d_Tn_single_48 ?_
    refine g_nI hf (fun x19 hf => ?_)
    have ⟨h23, hf⟩ := gd_e hf
    have ⟨x20, w21, h22, hf⟩ := kl_e hf
    refine g_ki0 (g_rV (As := [.int x19]) (rest := []) (b := B + a0) (rm := { frames := 7 + 2 * dd, cells := 0, slots := 0, locals := 177 + 40 * dd }) hx hb hml hown hts hK hR hS ((hg 0 a0 x19 w8 _ _ h22 (by decide)).1 rfl) I_Tn_either m_513 mp_11 (gRecv hK hR (ci := 7) rfl h23) rfl rfl (Nat.le_of_ble_eq_true rfl) hl.1 ⟨by show 7 + 2 * dd + 1 ≤ 7 + 2 * (dd + 1); omega, by show 8 + (4 + 11) + (177 + 40 * dd) ≤ 177 + 40 * (dd + 1); omega⟩ ⟨Nat.le_of_ble_eq_true rfl, Nat.le_of_ble_eq_true rfl⟩ d_Tn_single_49) hS (fun H locs hR hS => ?_)
    refine lv_if_eq (tgt := 68) hx hb d_Tn_single_52 (by decide) (fun hc => ?_) (fun hc => ?_)
    · have hf := cd_t hc hf
      refine lv_iconst (v := 0) hx hb d_Tn_single_68 (by decide) ?_
      exact g_iret hx hb hr hlocks hR hS hf rfl d_Tn_single_69
    have hf := cd_f hc hf
    refine lv_aload_n hx hb d_Tn_single_55 rfl (lv_at hl 0 rfl) ?_
    refine lv_bipush (v := 41) hx hb d_Tn_single_56 (by decide) ?_
    have ⟨h27, hf⟩ := gd_e hf
    have ⟨x24, w25, h26, hf⟩ := kl_e hf
    refine g_ki0 (g_rV (As := [.int 41]) (rest := []) hx hb hml hown hts hK hR hS (c_Tn_takes l D cA oc B N a0 41 w21 h26) I_Tn_takes m_501 mp_8 (gRecv hK hR (ci := 7) rfl h27) rfl rfl (Nat.le_of_ble_eq_true rfl) hl.1 ⟨Nat.le_trans (m := 7) (Nat.le_of_ble_eq_true rfl) (Nat.le_add_right _ _), Nat.le_trans (m := 177) (Nat.le_of_ble_eq_true rfl) (Nat.le_add_right _ _)⟩ ⟨Nat.le_of_ble_eq_true rfl, Nat.le_of_ble_eq_true rfl⟩ d_Tn_single_58) hS (fun H locs hR hS => ?_)
    refine lv_if_eq (tgt := 68) hx hb d_Tn_single_61 (by decide) (fun hc => ?_) (fun hc => ?_)
    · have hf := cd_t hc hf
      refine lv_iconst (v := 0) hx hb d_Tn_single_68 (by decide) ?_
      exact g_iret hx hb hr hlocks hR hS hf rfl d_Tn_single_69
    have hf := cd_f hc hf
    refine lv_iconst (v := 1) hx hb d_Tn_single_64 (by decide) ?_
    refine lv_goto (tgt := 69) hx hb d_Tn_single_65 (by decide) ?_
    exact g_iret hx hb hr hlocks hR hS hf rfl d_Tn_single_69
  have hf := cd_f hc hf
  refine lv_iconst (v := 0) hx hb d_Tn_single_27 (by decide) ?_
  exact g_iret hx hb hr hlocks hR hS hf rfl d_Tn_single_28
set_option maxRecDepth 20000 in
theorem c_Tn_single_b0 {rcg : Nat × Nat × Int32 × gW → Option (Int32 × gW)} {r : Int32} {wz : gW} {dd : Nat} (hg : ∀ (lab a0 : Nat) (a1 : Int32) (w wz : gW) (r : Int32), rcg (lab, a0, a1, w) = some (r, wz) → lab < 3 → c_grp l D cA oc B dd lab a0 a1 w wz r) (C : gC p s m args meth c "RidCoppers$Town" b_Tn_single 4 (some .boolean) D cA oc B) (a0 : Nat) (a1 : Int32) (w : gW) {ls : Array Slot} {H : Heap} {locs : List Loc} (hl : lv_has ls 4 [(0, .ref (B + a0)), (1, .int a1)]) (hf : f_Tn_single_b0 N rcg a0 a1 w = some (r, wz)) (hR : gRep D cA B w H) (hS : va_S (gA B) s.heap H locs) : W p l e ({ frames := 7 + 2 * (dd + 1), cells := 0, slots := 0, locals := 177 + 40 * (dd + 1) } : Room) s m args below meth c H locs 0 0 (MQ below (gQi D cA B r wz) args s 0 0 (gA B)) (F0 m 0 ls []) := by
  obtain ⟨hx, hb, hml, hown, hts, hr, hlocks, hK, hBs⟩ := id C
  unfold f_Tn_single_b0 at hf
  refine lv_aload_n hx hb d_Tn_single_0 rfl (lv_at hl 0 rfl) ?_
  have ⟨h4, hf⟩ := gd_e hf
  have ⟨x1, w2, h3, hf⟩ := kl_e hf
  refine g_ki0 (g_rV (As := []) (rest := []) hx hb hml hown hts hK hR hS (c_Tn_ahead l D cA oc B N a0 w h3) I_Tn_ahead m_442 mp_6 (gRecv hK hR (ci := 7) rfl h4) rfl rfl (Nat.le_of_ble_eq_true rfl) hl.1 ⟨Nat.le_trans (m := 7) (Nat.le_of_ble_eq_true rfl) (Nat.le_add_right _ _), Nat.le_trans (m := 177) (Nat.le_of_ble_eq_true rfl) (Nat.le_add_right _ _)⟩ ⟨Nat.le_of_ble_eq_true rfl, Nat.le_of_ble_eq_true rfl⟩ d_Tn_single_1) hS (fun H locs hR hS => ?_)
  refine lv_istore_n (lv' := [(2, .int x1), (0, .ref (B + a0)), (1, .int a1)]) hx hb d_Tn_single_4 rfl hl (by decide) rfl (fun ls hl => ?_)
  refine lv_iload_n hx hb d_Tn_single_5 rfl (lv_at hl 0 rfl) ?_
  refine lv_bipush (v := 33) hx hb d_Tn_single_6 (by decide) ?_
  refine lv_icmp_eq (tgt := 22) hx hb d_Tn_single_8 (by decide) (fun hc => ?_) (fun hc => ?_)
  · have hf := cd_t hc hf
    exact c_Tn_single_b22 hg C a0 a1 x1 w2 (lv_sub hl [1, 2, 0] rfl) hf hR hS
  have hf := cd_f hc hf
  refine lv_iload_n hx hb d_Tn_single_11 rfl (lv_at hl 0 rfl) ?_
  refine lv_bipush (v := 40) hx hb d_Tn_single_12 (by decide) ?_
  refine lv_icmp_eq (tgt := 22) hx hb d_Tn_single_14 (by decide) (fun hc => ?_) (fun hc => ?_)
  · have hf := cd_t hc hf
    exact c_Tn_single_b22 hg C a0 a1 x1 w2 (lv_sub hl [1, 2, 0] rfl) hf hR hS
  have hf := cd_f hc hf
  refine lv_aload_n hx hb d_Tn_single_17 rfl (lv_at hl 1 rfl) ?_
  have ⟨h31, hf⟩ := gd_e hf
  have ⟨x28, w29, h30, hf⟩ := kl_e hf
  refine g_ki0 (g_rV (As := []) (rest := []) hx hb hml hown hts hK hR hS (c_Tn_test l D cA oc B N a0 w2 h30) I_Tn_test m_525 mp_14 (gRecv hK hR (ci := 7) rfl h31) rfl rfl (Nat.le_of_ble_eq_true rfl) hl.1 ⟨Nat.le_trans (m := 7) (Nat.le_of_ble_eq_true rfl) (Nat.le_add_right _ _), Nat.le_trans (m := 177) (Nat.le_of_ble_eq_true rfl) (Nat.le_add_right _ _)⟩ ⟨Nat.le_of_ble_eq_true rfl, Nat.le_of_ble_eq_true rfl⟩ d_Tn_single_18) hS (fun H locs hR hS => ?_)
  have ⟨h32, hf⟩ := gd_e hf
  exact g_iret hx hb hr hlocks hR hS hf (nb01 h32) d_Tn_single_21
theorem c_grp_ok (l : Launch) (D : va_G) (cA : Nat → ClassId) (oc : gO) (B N : Nat) : ∀ (dd lab a0 : Nat) (a1 : Int32) (w wz : gW) (r : Int32), f_grp N dd (lab, a0, a1, w) = some (r, wz) → lab < 3 → c_grp l D cA oc B dd lab a0 a1 w wz r := by
  intro dd
  induction dd with
  | zero => intro lab a0 a1 w wz r hf; cases hf
  | succ dd ih =>
    intro lab a0 a1 w wz r hf _
    refine ⟨fun e0 => ?_, fun e0 => ?_, fun e0 => ?_⟩
    · subst e0
      have hf : f_grpS N (f_grp N dd) (0, a0, a1, w) = some (r, wz) := (itr_s (f_grpS N) dd _).symm.trans hf
      unfold f_grpS at hf
      have hf : f_Tn_either_b0 N (f_grp N dd) a0 a1 w = some (r, wz) := cd_t rfl hf
      refine Met.ofW (cc := b_Tn_either) (maxL := 4) (ret := (some .boolean)) (by decide +kernel) rfl ?_
      intro p e s m args below meth c s₁ Bd hml hv
      obtain ⟨hargs, C, hR⟩ := gC.enter (l := l) rfl Bd hml hv
      subst hargs
      have hl := lv_entry ([.ref (B + a0), .int a1]) (n := 4) (Nat.le_of_ble_eq_true rfl)
      rw [lg_entry_eq]
      generalize (lg_sl ([.ref (B + a0), .int a1]) ++ List.replicate (4 - (lg_sl ([.ref (B + a0), .int a1])).length) Slot.unset).toArray = ls at hl ⊢
      have hl : lv_has ls 4 [(0, .ref (B + a0)), (1, .int a1)] := hl
      exact c_Tn_either_b0 (rcg := f_grp N dd) ih C a0 a1 w (lv_sub hl [0, 1] rfl) hf hR va_S.rf
    · subst e0
      have hf : f_grpS N (f_grp N dd) (1, a0, a1, w) = some (r, wz) := (itr_s (f_grpS N) dd _).symm.trans hf
      unfold f_grpS at hf
      have hf : f_Tn_both_b0 N (f_grp N dd) a0 a1 w = some (r, wz) := cd_t rfl (cd_f (show ¬ (1 : Nat) = 0 by decide) hf)
      refine Met.ofW (cc := b_Tn_both) (maxL := 4) (ret := (some .boolean)) (by decide +kernel) rfl ?_
      intro p e s m args below meth c s₁ Bd hml hv
      obtain ⟨hargs, C, hR⟩ := gC.enter (l := l) rfl Bd hml hv
      subst hargs
      have hl := lv_entry ([.ref (B + a0), .int a1]) (n := 4) (Nat.le_of_ble_eq_true rfl)
      rw [lg_entry_eq]
      generalize (lg_sl ([.ref (B + a0), .int a1]) ++ List.replicate (4 - (lg_sl ([.ref (B + a0), .int a1])).length) Slot.unset).toArray = ls at hl ⊢
      have hl : lv_has ls 4 [(0, .ref (B + a0)), (1, .int a1)] := hl
      exact c_Tn_both_b0 (rcg := f_grp N dd) ih C a0 a1 w (lv_sub hl [0, 1] rfl) hf hR va_S.rf
    · subst e0
      have hf : f_grpS N (f_grp N dd) (2, a0, a1, w) = some (r, wz) := (itr_s (f_grpS N) dd _).symm.trans hf
      unfold f_grpS at hf
      have hf : f_Tn_single_b0 N (f_grp N dd) a0 a1 w = some (r, wz) := cd_t rfl (cd_f (show ¬ (2 : Nat) = 1 by decide) (cd_f (show ¬ (2 : Nat) = 0 by decide) hf))
      refine Met.ofW (cc := b_Tn_single) (maxL := 4) (ret := (some .boolean)) (by decide +kernel) rfl ?_
      intro p e s m args below meth c s₁ Bd hml hv
      obtain ⟨hargs, C, hR⟩ := gC.enter (l := l) rfl Bd hml hv
      subst hargs
      have hl := lv_entry ([.ref (B + a0), .int a1]) (n := 4) (Nat.le_of_ble_eq_true rfl)
      rw [lg_entry_eq]
      generalize (lg_sl ([.ref (B + a0), .int a1]) ++ List.replicate (4 - (lg_sl ([.ref (B + a0), .int a1])).length) Slot.unset).toArray = ls at hl ⊢
      have hl : lv_has ls 4 [(0, .ref (B + a0)), (1, .int a1)] := hl
      exact c_Tn_single_b0 (rcg := f_grp N dd) ih C a0 a1 w (lv_sub hl [0, 1] rfl) hf hR va_S.rf
theorem c_Tn_either (l : Launch) (D : va_G) (cA : Nat → ClassId) (oc : gO) (B N : Nat) (a0 : Nat) (a1 : Int32) (w : gW) {wz : gW} {r : Int32} (hf : f_Tn_either N a0 a1 w = some (r, wz)) : Met l y_Tn_either (Cond.code y_Tn_either b_Tn_either 4 (some .boolean) :: lw_good) ({ frames := 7 + 2 * 20, cells := 0, slots := 0, locals := 177 + 40 * 20 } : Room) (gPre D cA oc B [.ref (B + a0), .int a1] w) (gQi D cA B r wz) 0 0 (gA B) := (c_grp_ok l D cA oc B N 20 0 a0 a1 w wz r hf (by decide)).1 rfl
theorem c_Tn_both (l : Launch) (D : va_G) (cA : Nat → ClassId) (oc : gO) (B N : Nat) (a0 : Nat) (a1 : Int32) (w : gW) {wz : gW} {r : Int32} (hf : f_Tn_both N a0 a1 w = some (r, wz)) : Met l y_Tn_both (Cond.code y_Tn_both b_Tn_both 4 (some .boolean) :: lw_good) ({ frames := 7 + 2 * 20, cells := 0, slots := 0, locals := 177 + 40 * 20 } : Room) (gPre D cA oc B [.ref (B + a0), .int a1] w) (gQi D cA B r wz) 0 0 (gA B) := (c_grp_ok l D cA oc B N 20 1 a0 a1 w wz r hf (by decide)).2.1 rfl
theorem c_Tn_single (l : Launch) (D : va_G) (cA : Nat → ClassId) (oc : gO) (B N : Nat) (a0 : Nat) (a1 : Int32) (w : gW) {wz : gW} {r : Int32} (hf : f_Tn_single N a0 a1 w = some (r, wz)) : Met l y_Tn_single (Cond.code y_Tn_single b_Tn_single 4 (some .boolean) :: lw_good) ({ frames := 7 + 2 * 20, cells := 0, slots := 0, locals := 177 + 40 * 20 } : Room) (gPre D cA oc B [.ref (B + a0), .int a1] w) (gQi D cA B r wz) 0 0 (gA B) := (c_grp_ok l D cA oc B N 20 2 a0 a1 w wz r hf (by decide)).2.2 rfl
theorem d_Tn_takesWord_0 : decode b_Tn_takesWord 0 = .ok (.iload_n 1, 1) := by decide +kernel
theorem d_Tn_takesWord_1 : decode b_Tn_takesWord 1 = .ok (.ifCond .ne 8, 3) := by decide +kernel
theorem d_Tn_takesWord_4 : decode b_Tn_takesWord 4 = .ok (.ldc 120, 2) := by decide +kernel
theorem d_Tn_takesWord_6 : decode b_Tn_takesWord 6 = .ok (.goto 15, 3) := by decide +kernel
theorem d_Tn_takesWord_9 : decode b_Tn_takesWord 9 = .ok (.iload_n 1, 1) := by decide +kernel
theorem d_Tn_takesWord_10 : decode b_Tn_takesWord 10 = .ok (.iconst 1, 1) := by decide +kernel
theorem d_Tn_takesWord_11 : decode b_Tn_takesWord 11 = .ok (.if_icmp .ne 8, 3) := by decide +kernel
theorem d_Tn_takesWord_14 : decode b_Tn_takesWord 14 = .ok (.ldc 122, 2) := by decide +kernel
theorem d_Tn_takesWord_16 : decode b_Tn_takesWord 16 = .ok (.goto 5, 3) := by decide +kernel
theorem d_Tn_takesWord_19 : decode b_Tn_takesWord 19 = .ok (.ldc 124, 2) := by decide +kernel
theorem d_Tn_takesWord_21 : decode b_Tn_takesWord 21 = .ok (.astore_n 2, 1) := by decide +kernel
theorem d_Tn_takesWord_22 : decode b_Tn_takesWord 22 = .ok (.iconst 0, 1) := by decide +kernel
theorem d_Tn_takesWord_23 : decode b_Tn_takesWord 23 = .ok (.istore_n 3, 1) := by decide +kernel
theorem d_Tn_takesWord_24 : decode b_Tn_takesWord 24 = .ok (.iload_n 3, 1) := by decide +kernel
theorem d_Tn_takesWord_25 : decode b_Tn_takesWord 25 = .ok (.aload_n 2, 1) := by decide +kernel
theorem d_Tn_takesWord_26 : decode b_Tn_takesWord 26 = .ok (.invokevirtual 125, 3) := by decide +kernel
theorem d_Tn_takesWord_29 : decode b_Tn_takesWord 29 = .ok (.if_icmp .ge 23, 3) := by decide +kernel
theorem d_Tn_takesWord_32 : decode b_Tn_takesWord 32 = .ok (.aload_n 0, 1) := by decide +kernel
theorem d_Tn_takesWord_33 : decode b_Tn_takesWord 33 = .ok (.aload_n 2, 1) := by decide +kernel
theorem d_Tn_takesWord_34 : decode b_Tn_takesWord 34 = .ok (.iload_n 3, 1) := by decide +kernel
theorem d_Tn_takesWord_35 : decode b_Tn_takesWord 35 = .ok (.invokevirtual 130, 3) := by decide +kernel
theorem d_Tn_takesWord_38 : decode b_Tn_takesWord 38 = .ok (.invokevirtual 57, 3) := by decide +kernel
theorem d_Tn_takesWord_41 : decode b_Tn_takesWord 41 = .ok (.ifCond .ne 5, 3) := by decide +kernel
theorem d_Tn_takesWord_44 : decode b_Tn_takesWord 44 = .ok (.iconst 0, 1) := by decide +kernel
theorem d_Tn_takesWord_45 : decode b_Tn_takesWord 45 = .ok (.ireturn, 1) := by decide +kernel
theorem d_Tn_takesWord_46 : decode b_Tn_takesWord 46 = .ok (.iinc 3 1, 3) := by decide +kernel
theorem d_Tn_takesWord_49 : decode b_Tn_takesWord 49 = .ok (.goto (-25), 3) := by decide +kernel
theorem d_Tn_takesWord_52 : decode b_Tn_takesWord 52 = .ok (.iconst 1, 1) := by decide +kernel
theorem d_Tn_takesWord_53 : decode b_Tn_takesWord 53 = .ok (.ireturn, 1) := by decide +kernel
set_option maxRecDepth 20000 in
theorem c_Tn_takesWord_b24 {r : Int32} {wz : gW} {rec24 : Nat × Nat × Int32 × gW → Option (Int32 × gW)} (ih24 : ∀ (a0 : Nat) (a2 : Nat) (a3 : Int32) (w : gW) (ls : Array Slot) (H : Heap) (locs : List Loc), rec24 (a0, a2, a3, w) = some (r, wz) → lv_has ls 4 [(0, .ref (B + a0)), (2, .ref (oc.2.1 a2)), (3, .int a3)] → gRep D cA B w H → va_S (gA B) s.heap H locs → W p l e ({ frames := 5, cells := 0, slots := 0, locals := 125 } : Room) s m args below meth c H locs 0 0 (MQ below (gQi D cA B r wz) args s 0 0 (gA B)) (F0 m 24 ls [])) (C : gC p s m args meth c "RidCoppers$Town" b_Tn_takesWord 4 (some .boolean) D cA oc B) (a0 : Nat) (a2 : Nat) (a3 : Int32) (w : gW) {ls : Array Slot} {H : Heap} {locs : List Loc} (hl : lv_has ls 4 [(0, .ref (B + a0)), (2, .ref (oc.2.1 a2)), (3, .int a3)]) (hf : f_Tn_takesWord_b24 N rec24 a0 a2 a3 w = some (r, wz)) (hR : gRep D cA B w H) (hS : va_S (gA B) s.heap H locs) : W p l e ({ frames := 5, cells := 0, slots := 0, locals := 125 } : Room) s m args below meth c H locs 0 0 (MQ below (gQi D cA B r wz) args s 0 0 (gA B)) (F0 m 24 ls []) := by
  obtain ⟨hx, hb, hml, hown, hts, hr, hlocks, hK, hBs⟩ := id C
  unfold f_Tn_takesWord_b24 at hf
  refine lv_iload_n hx hb d_Tn_takesWord_24 rfl (lv_at hl 2 rfl) ?_
  refine lv_aload_n hx hb d_Tn_takesWord_25 rfl (lv_at hl 1 rfl) ?_
  have ⟨h4, hf⟩ := gd_e hf
  have ⟨x1, w2, h3, hf⟩ := kl_e hf
  refine g_ki0 (g_rV (As := []) (rest := [.int a3]) hx hb hml hown hts hK hR hS (c_S_length l D cA oc B N a2 w h3) I_S_length m_453 m_455 (gRecvS hK hS h4) rfl rfl (Nat.le_of_ble_eq_true rfl) hl.1 ⟨Nat.le_of_ble_eq_true rfl, Nat.le_of_ble_eq_true rfl⟩ ⟨Nat.le_of_ble_eq_true rfl, Nat.le_of_ble_eq_true rfl⟩ d_Tn_takesWord_26) hS (fun H locs hR hS => ?_)
  refine lv_icmp_ge (tgt := 52) hx hb d_Tn_takesWord_29 (by decide) (fun hc => ?_) (fun hc => ?_)
  · have hf := cd_t hc hf
    refine lv_iconst (v := 1) hx hb d_Tn_takesWord_52 (by decide) ?_
    exact g_iret hx hb hr hlocks hR hS hf rfl d_Tn_takesWord_53
  have hf := cd_f hc hf
  refine lv_aload_n hx hb d_Tn_takesWord_32 rfl (lv_at hl 0 rfl) ?_
  refine lv_aload_n hx hb d_Tn_takesWord_33 rfl (lv_at hl 1 rfl) ?_
  refine lv_iload_n hx hb d_Tn_takesWord_34 rfl (lv_at hl 2 rfl) ?_
  have ⟨x5, w6, h7, hf⟩ := kl_e hf
  refine g_ki0 (g_rV (As := [.int a3]) (rest := [.ref (B + a0)]) hx hb hml hown hts hK hR hS (c_S_charAt l D cA oc B N a2 a3 w2 h7) I_S_charAt m_463 m_465 (gRecvS hK hS h4) rfl rfl (Nat.le_of_ble_eq_true rfl) hl.1 ⟨Nat.le_of_ble_eq_true rfl, Nat.le_of_ble_eq_true rfl⟩ ⟨Nat.le_of_ble_eq_true rfl, Nat.le_of_ble_eq_true rfl⟩ d_Tn_takesWord_35) hS (fun H locs hR hS => ?_)
  have ⟨h11, hf⟩ := gd_e hf
  have ⟨x8, w9, h10, hf⟩ := kl_e hf
  refine g_ki0 (g_rV (As := [.int x5]) (rest := []) hx hb hml hown hts hK hR hS (c_Tn_takes l D cA oc B N a0 x5 w6 h10) I_Tn_takes m_501 mp_8 (gRecv hK hR (ci := 7) rfl h11) rfl rfl (Nat.le_of_ble_eq_true rfl) hl.1 ⟨Nat.le_of_ble_eq_true rfl, Nat.le_of_ble_eq_true rfl⟩ ⟨Nat.le_of_ble_eq_true rfl, Nat.le_of_ble_eq_true rfl⟩ d_Tn_takesWord_38) hS (fun H locs hR hS => ?_)
  refine lv_if_ne (tgt := 46) hx hb d_Tn_takesWord_41 (by decide) (fun hc => ?_) (fun hc => ?_)
  · have hf := cd_f hc hf
    refine g_iinc (lv' := fun x12 => [(3, .int x12), (0, .ref (B + a0)), (2, .ref (oc.2.1 a2))]) hf hx hb d_Tn_takesWord_46 hl (k := 2) rfl (by decide) (by decide) (fun _ => rfl) (fun x12 ls hf hl => ?_)
    refine lv_goto (tgt := 24) hx hb d_Tn_takesWord_49 (by decide) ?_
    exact ih24 a0 a2 x12 w9 _ _ _ hf (lv_sub hl [1, 2, 0] rfl) hR hS
  have hf := cd_t hc hf
  refine lv_iconst (v := 0) hx hb d_Tn_takesWord_44 (by decide) ?_
  exact g_iret hx hb hr hlocks hR hS hf rfl d_Tn_takesWord_45
theorem c_Tn_takesWord_l24 {r : Int32} {wz : gW} (C : gC p s m args meth c "RidCoppers$Town" b_Tn_takesWord 4 (some .boolean) D cA oc B) (a0 : Nat) (a2 : Nat) (a3 : Int32) (w : gW) {ls : Array Slot} {H : Heap} {locs : List Loc} (hl : lv_has ls 4 [(0, .ref (B + a0)), (2, .ref (oc.2.1 a2)), (3, .int a3)]) (hf : f_Tn_takesWord_l24 N a0 a2 a3 w = some (r, wz)) (hR : gRep D cA B w H) (hS : va_S (gA B) s.heap H locs) : W p l e ({ frames := 5, cells := 0, slots := 0, locals := 125 } : Room) s m args below meth c H locs 0 0 (MQ below (gQi D cA B r wz) args s 0 0 (gA B)) (F0 m 24 ls []) := by
  unfold f_Tn_takesWord_l24 at hf
  suffices hh : ∀ n : Nat, ∀ (a0 : Nat) (a2 : Nat) (a3 : Int32) (w : gW) (ls : Array Slot) (H : Heap) (locs : List Loc), itr (fun rec (q : Nat × Nat × Int32 × gW) => f_Tn_takesWord_b24 N rec q.1 q.2.1 q.2.2.1 q.2.2.2) n (a0, a2, a3, w) = some (r, wz) → lv_has ls 4 [(0, .ref (B + a0)), (2, .ref (oc.2.1 a2)), (3, .int a3)] → gRep D cA B w H → va_S (gA B) s.heap H locs → W p l e ({ frames := 5, cells := 0, slots := 0, locals := 125 } : Room) s m args below meth c H locs 0 0 (MQ below (gQi D cA B r wz) args s 0 0 (gA B)) (F0 m 24 ls []) from hh N a0 a2 a3 w ls H locs hf hl hR hS
  intro n
  induction n with
  | zero => intro a0 a2 a3 w ls H locs hf; cases hf
  | succ n ihn =>
    intro a0 a2 a3 w ls H locs hf hl hR hS
    exact c_Tn_takesWord_b24 (N := N) ihn C a0 a2 a3 w hl ((itr_s _ _ _).symm.trans hf) hR hS
set_option maxRecDepth 20000 in
theorem c_Tn_takesWord_b0 {r : Int32} {wz : gW} (C : gC p s m args meth c "RidCoppers$Town" b_Tn_takesWord 4 (some .boolean) D cA oc B) (a0 : Nat) (a1 : Int32) (w : gW) {ls : Array Slot} {H : Heap} {locs : List Loc} (hl : lv_has ls 4 [(0, .ref (B + a0)), (1, .int a1)]) (hf : f_Tn_takesWord_b0 N a0 a1 w = some (r, wz)) (hR : gRep D cA B w H) (hS : va_S (gA B) s.heap H locs) : W p l e ({ frames := 5, cells := 0, slots := 0, locals := 125 } : Room) s m args below meth c H locs 0 0 (MQ below (gQi D cA B r wz) args s 0 0 (gA B)) (F0 m 0 ls []) := by
  obtain ⟨hx, hb, hml, hown, hts, hr, hlocks, hK, hBs⟩ := id C
  unfold f_Tn_takesWord_b0 at hf
  refine lv_iload_n hx hb d_Tn_takesWord_0 rfl (lv_at hl 1 rfl) ?_
  refine lv_if_ne (tgt := 9) hx hb d_Tn_takesWord_1 (by decide) (fun hc => ?_) (fun hc => ?_)
  · have hf := cd_f hc hf
    refine lv_iload_n hx hb d_Tn_takesWord_9 rfl (lv_at hl 1 rfl) ?_
    refine lv_iconst (v := 1) hx hb d_Tn_takesWord_10 (by decide) ?_
    refine lv_icmp_ne (tgt := 19) hx hb d_Tn_takesWord_11 (by decide) (fun hc => ?_) (fun hc => ?_)
    · have hf := cd_f hc hf
      refine va_ldcS hx hb hown hK.2.2.1.2.2.1 d_Tn_takesWord_19 ?_
      refine lv_astore_n (lv' := [(2, .ref (oc.2.1 2)), (0, .ref (B + a0)), (1, .int a1)]) hx hb d_Tn_takesWord_21 rfl hl (by decide) rfl (fun ls hl => ?_)
      refine lv_iconst (v := 0) hx hb d_Tn_takesWord_22 (by decide) ?_
      refine lv_istore_n (lv' := [(3, .int 0), (2, .ref (oc.2.1 2)), (0, .ref (B + a0)), (1, .int a1)]) hx hb d_Tn_takesWord_23 rfl hl (by decide) rfl (fun ls hl => ?_)
      exact c_Tn_takesWord_l24 C a0 2 0 w (lv_sub hl [2, 1, 0] rfl) hf hR hS
    have hf := cd_t hc hf
    refine va_ldcS hx hb hown hK.2.2.1.2.1 d_Tn_takesWord_14 ?_
    refine lv_goto (tgt := 21) hx hb d_Tn_takesWord_16 (by decide) ?_
    refine lv_astore_n (lv' := [(2, .ref (oc.2.1 1)), (0, .ref (B + a0)), (1, .int a1)]) hx hb d_Tn_takesWord_21 rfl hl (by decide) rfl (fun ls hl => ?_)
    refine lv_iconst (v := 0) hx hb d_Tn_takesWord_22 (by decide) ?_
    refine lv_istore_n (lv' := [(3, .int 0), (2, .ref (oc.2.1 1)), (0, .ref (B + a0)), (1, .int a1)]) hx hb d_Tn_takesWord_23 rfl hl (by decide) rfl (fun ls hl => ?_)
    exact c_Tn_takesWord_l24 C a0 1 0 w (lv_sub hl [2, 1, 0] rfl) hf hR hS
  have hf := cd_t hc hf
  refine va_ldcS hx hb hown hK.2.2.1.1 d_Tn_takesWord_4 ?_
  refine lv_goto (tgt := 21) hx hb d_Tn_takesWord_6 (by decide) ?_
  refine lv_astore_n (lv' := [(2, .ref (oc.2.1 0)), (0, .ref (B + a0)), (1, .int a1)]) hx hb d_Tn_takesWord_21 rfl hl (by decide) rfl (fun ls hl => ?_)
  refine lv_iconst (v := 0) hx hb d_Tn_takesWord_22 (by decide) ?_
  refine lv_istore_n (lv' := [(3, .int 0), (2, .ref (oc.2.1 0)), (0, .ref (B + a0)), (1, .int a1)]) hx hb d_Tn_takesWord_23 rfl hl (by decide) rfl (fun ls hl => ?_)
  exact c_Tn_takesWord_l24 C a0 0 0 w (lv_sub hl [2, 1, 0] rfl) hf hR hS
theorem c_Tn_takesWord (l : Launch) (D : va_G) (cA : Nat → ClassId) (oc : gO) (B N : Nat) (a0 : Nat) (a1 : Int32) (w : gW) {wz : gW} {r : Int32} (hf : f_Tn_takesWord N a0 a1 w = some (r, wz)) : Met l y_Tn_takesWord (Cond.code y_Tn_takesWord b_Tn_takesWord 4 (some .boolean) :: lw_good) ({ frames := 5, cells := 0, slots := 0, locals := 125 } : Room) (gPre D cA oc B [.ref (B + a0), .int a1] w) (gQi D cA B r wz) 0 0 (gA B) := by
  refine Met.ofW (cc := b_Tn_takesWord) (maxL := 4) (ret := (some .boolean)) (by decide +kernel) rfl ?_
  intro p e s m args below meth c s₁ Bd hml hv
  obtain ⟨hargs, C, hR⟩ := gC.enter (l := l) rfl Bd hml hv
  subst hargs
  have hl := lv_entry ([.ref (B + a0), .int a1]) (n := 4) (Nat.le_of_ble_eq_true rfl)
  rw [lg_entry_eq]
  generalize (lg_sl ([.ref (B + a0), .int a1]) ++ List.replicate (4 - (lg_sl ([.ref (B + a0), .int a1])).length) Slot.unset).toArray = ls at hl ⊢
  have hl : lv_has ls 4 [(0, .ref (B + a0)), (1, .int a1)] := hl
  exact c_Tn_takesWord_b0 C a0 a1 w (lv_sub hl [0, 1] rfl) hf hR va_S.rf
theorem d_Tn_clause_0 : decode b_Tn_clause 0 = .ok (.aload_n 0, 1) := by decide +kernel
theorem d_Tn_clause_1 : decode b_Tn_clause 1 = .ok (.getfield 31, 3) := by decide +kernel
theorem d_Tn_clause_4 : decode b_Tn_clause 4 = .ok (.istore_n 1, 1) := by decide +kernel
theorem d_Tn_clause_5 : decode b_Tn_clause 5 = .ok (.aload_n 0, 1) := by decide +kernel
theorem d_Tn_clause_6 : decode b_Tn_clause 6 = .ok (.invokevirtual 108, 3) := by decide +kernel
theorem d_Tn_clause_9 : decode b_Tn_clause 9 = .ok (.istore_n 2, 1) := by decide +kernel
theorem d_Tn_clause_10 : decode b_Tn_clause 10 = .ok (.aload_n 0, 1) := by decide +kernel
theorem d_Tn_clause_11 : decode b_Tn_clause 11 = .ok (.getfield 19, 3) := by decide +kernel
theorem d_Tn_clause_14 : decode b_Tn_clause 14 = .ok (.iload_n 1, 1) := by decide +kernel
theorem d_Tn_clause_15 : decode b_Tn_clause 15 = .ok (.iload_n 2, 1) := by decide +kernel
theorem d_Tn_clause_16 : decode b_Tn_clause 16 = .ok (.bipush 104, 2) := by decide +kernel
theorem d_Tn_clause_18 : decode b_Tn_clause 18 = .ok (.if_icmp .ne 7, 3) := by decide +kernel
theorem d_Tn_clause_21 : decode b_Tn_clause 21 = .ok (.iconst 0, 1) := by decide +kernel
theorem d_Tn_clause_22 : decode b_Tn_clause 22 = .ok (.goto 14, 3) := by decide +kernel
theorem d_Tn_clause_25 : decode b_Tn_clause 25 = .ok (.iload_n 2, 1) := by decide +kernel
theorem d_Tn_clause_26 : decode b_Tn_clause 26 = .ok (.bipush 107, 2) := by decide +kernel
theorem d_Tn_clause_28 : decode b_Tn_clause 28 = .ok (.if_icmp .ne 7, 3) := by decide +kernel
theorem d_Tn_clause_31 : decode b_Tn_clause 31 = .ok (.iconst 1, 1) := by decide +kernel
theorem d_Tn_clause_32 : decode b_Tn_clause 32 = .ok (.goto 4, 3) := by decide +kernel
theorem d_Tn_clause_35 : decode b_Tn_clause 35 = .ok (.iconst 2, 1) := by decide +kernel
theorem d_Tn_clause_36 : decode b_Tn_clause 36 = .ok (.iastore, 1) := by decide +kernel
theorem d_Tn_clause_37 : decode b_Tn_clause 37 = .ok (.aload_n 0, 1) := by decide +kernel
theorem d_Tn_clause_38 : decode b_Tn_clause 38 = .ok (.getfield 25, 3) := by decide +kernel
theorem d_Tn_clause_41 : decode b_Tn_clause 41 = .ok (.iload_n 1, 1) := by decide +kernel
theorem d_Tn_clause_42 : decode b_Tn_clause 42 = .ok (.aload_n 0, 1) := by decide +kernel
theorem d_Tn_clause_43 : decode b_Tn_clause 43 = .ok (.getfield 37, 3) := by decide +kernel
theorem d_Tn_clause_46 : decode b_Tn_clause 46 = .ok (.iastore, 1) := by decide +kernel
theorem d_Tn_clause_47 : decode b_Tn_clause 47 = .ok (.aload_n 0, 1) := by decide +kernel
theorem d_Tn_clause_48 : decode b_Tn_clause 48 = .ok (.aload_n 0, 1) := by decide +kernel
theorem d_Tn_clause_49 : decode b_Tn_clause 49 = .ok (.getfield 19, 3) := by decide +kernel
theorem d_Tn_clause_52 : decode b_Tn_clause 52 = .ok (.iload_n 1, 1) := by decide +kernel
theorem d_Tn_clause_53 : decode b_Tn_clause 53 = .ok (.iaload, 1) := by decide +kernel
theorem d_Tn_clause_54 : decode b_Tn_clause 54 = .ok (.invokevirtual 112, 3) := by decide +kernel
theorem d_Tn_clause_57 : decode b_Tn_clause 57 = .ok (.ifCond .eq 12, 3) := by decide +kernel
theorem d_Tn_clause_60 : decode b_Tn_clause 60 = .ok (.aload_n 0, 1) := by decide +kernel
theorem d_Tn_clause_61 : decode b_Tn_clause 61 = .ok (.bipush 32, 2) := by decide +kernel
theorem d_Tn_clause_63 : decode b_Tn_clause 63 = .ok (.invokevirtual 57, 3) := by decide +kernel
theorem d_Tn_clause_66 : decode b_Tn_clause 66 = .ok (.ifCond .ne 5, 3) := by decide +kernel
theorem d_Tn_clause_69 : decode b_Tn_clause 69 = .ok (.iconst 0, 1) := by decide +kernel
theorem d_Tn_clause_70 : decode b_Tn_clause 70 = .ok (.ireturn, 1) := by decide +kernel
theorem d_Tn_clause_71 : decode b_Tn_clause 71 = .ok (.aload_n 0, 1) := by decide +kernel
theorem d_Tn_clause_72 : decode b_Tn_clause 72 = .ok (.getfield 22, 3) := by decide +kernel
theorem d_Tn_clause_75 : decode b_Tn_clause 75 = .ok (.iload_n 1, 1) := by decide +kernel
theorem d_Tn_clause_76 : decode b_Tn_clause 76 = .ok (.aload_n 0, 1) := by decide +kernel
theorem d_Tn_clause_77 : decode b_Tn_clause 77 = .ok (.invokevirtual 115, 3) := by decide +kernel
theorem d_Tn_clause_80 : decode b_Tn_clause 80 = .ok (.iastore, 1) := by decide +kernel
theorem d_Tn_clause_81 : decode b_Tn_clause 81 = .ok (.aload_n 0, 1) := by decide +kernel
theorem d_Tn_clause_82 : decode b_Tn_clause 82 = .ok (.getfield 22, 3) := by decide +kernel
theorem d_Tn_clause_85 : decode b_Tn_clause 85 = .ok (.iload_n 1, 1) := by decide +kernel
theorem d_Tn_clause_86 : decode b_Tn_clause 86 = .ok (.iaload, 1) := by decide +kernel
theorem d_Tn_clause_87 : decode b_Tn_clause 87 = .ok (.ifCond .ge 5, 3) := by decide +kernel
theorem d_Tn_clause_90 : decode b_Tn_clause 90 = .ok (.iconst 0, 1) := by decide +kernel
theorem d_Tn_clause_91 : decode b_Tn_clause 91 = .ok (.ireturn, 1) := by decide +kernel
theorem d_Tn_clause_92 : decode b_Tn_clause 92 = .ok (.aload_n 0, 1) := by decide +kernel
theorem d_Tn_clause_93 : decode b_Tn_clause 93 = .ok (.getfield 19, 3) := by decide +kernel
theorem d_Tn_clause_96 : decode b_Tn_clause 96 = .ok (.iload_n 1, 1) := by decide +kernel
theorem d_Tn_clause_97 : decode b_Tn_clause 97 = .ok (.iaload, 1) := by decide +kernel
theorem d_Tn_clause_98 : decode b_Tn_clause 98 = .ok (.iconst 2, 1) := by decide +kernel
theorem d_Tn_clause_99 : decode b_Tn_clause 99 = .ok (.if_icmp .eq 22, 3) := by decide +kernel
theorem d_Tn_clause_102 : decode b_Tn_clause 102 = .ok (.aload_n 0, 1) := by decide +kernel
theorem d_Tn_clause_103 : decode b_Tn_clause 103 = .ok (.bipush 32, 2) := by decide +kernel
theorem d_Tn_clause_105 : decode b_Tn_clause 105 = .ok (.invokevirtual 57, 3) := by decide +kernel
theorem d_Tn_clause_108 : decode b_Tn_clause 108 = .ok (.ifCond .eq 11, 3) := by decide +kernel
theorem d_Tn_clause_111 : decode b_Tn_clause 111 = .ok (.aload_n 0, 1) := by decide +kernel
theorem d_Tn_clause_112 : decode b_Tn_clause 112 = .ok (.iconst 0, 1) := by decide +kernel
theorem d_Tn_clause_113 : decode b_Tn_clause 113 = .ok (.invokevirtual 117, 3) := by decide +kernel
theorem d_Tn_clause_116 : decode b_Tn_clause 116 = .ok (.ifCond .ne 5, 3) := by decide +kernel
theorem d_Tn_clause_119 : decode b_Tn_clause 119 = .ok (.iconst 0, 1) := by decide +kernel
theorem d_Tn_clause_120 : decode b_Tn_clause 120 = .ok (.ireturn, 1) := by decide +kernel
theorem d_Tn_clause_121 : decode b_Tn_clause 121 = .ok (.aload_n 0, 1) := by decide +kernel
theorem d_Tn_clause_122 : decode b_Tn_clause 122 = .ok (.getfield 28, 3) := by decide +kernel
theorem d_Tn_clause_125 : decode b_Tn_clause 125 = .ok (.iload_n 1, 1) := by decide +kernel
theorem d_Tn_clause_126 : decode b_Tn_clause 126 = .ok (.aload_n 0, 1) := by decide +kernel
theorem d_Tn_clause_127 : decode b_Tn_clause 127 = .ok (.getfield 37, 3) := by decide +kernel
theorem d_Tn_clause_130 : decode b_Tn_clause 130 = .ok (.iastore, 1) := by decide +kernel
theorem d_Tn_clause_131 : decode b_Tn_clause 131 = .ok (.aload_n 0, 1) := by decide +kernel
theorem d_Tn_clause_132 : decode b_Tn_clause 132 = .ok (.dup, 1) := by decide +kernel
theorem d_Tn_clause_133 : decode b_Tn_clause 133 = .ok (.getfield 31, 3) := by decide +kernel
theorem d_Tn_clause_136 : decode b_Tn_clause 136 = .ok (.iconst 1, 1) := by decide +kernel
theorem d_Tn_clause_137 : decode b_Tn_clause 137 = .ok (.iadd, 1) := by decide +kernel
theorem d_Tn_clause_138 : decode b_Tn_clause 138 = .ok (.putfield 31, 3) := by decide +kernel
theorem d_Tn_clause_141 : decode b_Tn_clause 141 = .ok (.iconst 1, 1) := by decide +kernel
theorem d_Tn_clause_142 : decode b_Tn_clause 142 = .ok (.ireturn, 1) := by decide +kernel
set_option maxRecDepth 20000 in
theorem c_Tn_clause_b121 {r : Int32} {wz : gW} (C : gC p s m args meth c "RidCoppers$Town" b_Tn_clause 3 (some .boolean) D cA oc B) (a0 : Nat) (a1 : Int32) (w : gW) {ls : Array Slot} {H : Heap} {locs : List Loc} (hl : lv_has ls 3 [(0, .ref (B + a0)), (1, .int a1)]) (hf : f_Tn_clause_b121 N a0 a1 w = some (r, wz)) (hR : gRep D cA B w H) (hS : va_S (gA B) s.heap H locs) : W p l e ({ frames := 48, cells := 0, slots := 0, locals := 1000 } : Room) s m args below meth c H locs 0 0 (MQ below (gQi D cA B r wz) args s 0 0 (gA B)) (F0 m 121 ls []) := by
  obtain ⟨hx, hb, hml, hown, hts, hr, hlocks, hK, hBs⟩ := id C
  unfold f_Tn_clause_b121 at hf
  refine lv_aload_n hx hb d_Tn_clause_121 rfl (lv_at hl 0 rfl) ?_
  have ⟨h52, hf⟩ := gd_e hf
  have ⟨x53, h54, hf⟩ := rr_e hf
  refine g_getR hx hb hts hown hK hR fl_Tn_28 (fun _ => rfl) h52 h54 d_Tn_clause_122 ?_
  refine lv_iload_n hx hb d_Tn_clause_125 rfl (lv_at hl 1 rfl) ?_
  refine lv_aload_n hx hb d_Tn_clause_126 rfl (lv_at hl 0 rfl) ?_
  refine g_getI hx hb hts hown hK hR fl_Tn_37 (fun _ => rfl) h52 d_Tn_clause_127 ?_
  refine g_nI hf (fun x55 hf => ?_)
  have ⟨h56, hf⟩ := gd_e hf
  have ⟨h57, hf⟩ := gd_e hf
  refine g_iast hx hb hK hR hS h56 h57 d_Tn_clause_130 (fun H locs hR hS => ?_)
  refine g_nW hf hR (fun w58 hf hR => ?_)
  refine lv_aload_n hx hb d_Tn_clause_131 rfl (lv_at hl 0 rfl) ?_
  refine lv_dup hx hb d_Tn_clause_132 rfl ?_
  have ⟨h59, hf⟩ := gd_e hf
  refine g_getI hx hb hts hown hK hR fl_Tn_31 (fun _ => rfl) h59 d_Tn_clause_133 ?_
  refine g_nI hf (fun x60 hf => ?_)
  refine lv_iconst (v := 1) hx hb d_Tn_clause_136 (by decide) ?_
  refine lv_iadd hx hb d_Tn_clause_137 ?_
  refine g_nI hf (fun x61 hf => ?_)
  refine g_putI hx hb hts hown hK hR hS pf_Tn_31 (fun _ => rfl) rfl rfl h59 d_Tn_clause_138 (fun H locs hR hS => ?_)
  refine g_nW hf hR (fun w62 hf hR => ?_)
  refine lv_iconst (v := 1) hx hb d_Tn_clause_141 (by decide) ?_
  exact g_iret hx hb hr hlocks hR hS hf rfl d_Tn_clause_142
set_option maxRecDepth 20000 in
theorem c_Tn_clause_b36 {r : Int32} {wz : gW} (C : gC p s m args meth c "RidCoppers$Town" b_Tn_clause 3 (some .boolean) D cA oc B) (a0 : Nat) (a1 : Int32) (z0 : Int32) (z1 : Int32) (z2 : Nat) (w : gW) {ls : Array Slot} {H : Heap} {locs : List Loc} (hl : lv_has ls 3 [(0, .ref (B + a0)), (1, .int a1)]) (hf : f_Tn_clause_b36 N a0 a1 z0 z1 z2 w = some (r, wz)) (hR : gRep D cA B w H) (hS : va_S (gA B) s.heap H locs) : W p l e ({ frames := 48, cells := 0, slots := 0, locals := 1000 } : Room) s m args below meth c H locs 0 0 (MQ below (gQi D cA B r wz) args s 0 0 (gA B)) (F0 m 36 ls [.int z0, .int z1, .ref (B + z2)]) := by
  obtain ⟨hx, hb, hml, hown, hts, hr, hlocks, hK, hBs⟩ := id C
  unfold f_Tn_clause_b36 at hf
  have ⟨h9, hf⟩ := gd_e hf
  have ⟨h10, hf⟩ := gd_e hf
  refine g_iast hx hb hK hR hS h9 h10 d_Tn_clause_36 (fun H locs hR hS => ?_)
  refine g_nW hf hR (fun w11 hf hR => ?_)
  refine lv_aload_n hx hb d_Tn_clause_37 rfl (lv_at hl 0 rfl) ?_
  have ⟨h12, hf⟩ := gd_e hf
  have ⟨x13, h14, hf⟩ := rr_e hf
  refine g_getR hx hb hts hown hK hR fl_Tn_25 (fun _ => rfl) h12 h14 d_Tn_clause_38 ?_
  refine lv_iload_n hx hb d_Tn_clause_41 rfl (lv_at hl 1 rfl) ?_
  refine lv_aload_n hx hb d_Tn_clause_42 rfl (lv_at hl 0 rfl) ?_
  refine g_getI hx hb hts hown hK hR fl_Tn_37 (fun _ => rfl) h12 d_Tn_clause_43 ?_
  refine g_nI hf (fun x15 hf => ?_)
  have ⟨h16, hf⟩ := gd_e hf
  have ⟨h17, hf⟩ := gd_e hf
  refine g_iast hx hb hK hR hS h16 h17 d_Tn_clause_46 (fun H locs hR hS => ?_)
  refine g_nW hf hR (fun w18 hf hR => ?_)
  refine lv_aload_n hx hb d_Tn_clause_47 rfl (lv_at hl 0 rfl) ?_
  refine lv_aload_n hx hb d_Tn_clause_48 rfl (lv_at hl 0 rfl) ?_
  have ⟨h19, hf⟩ := gd_e hf
  have ⟨x20, h21, hf⟩ := rr_e hf
  refine g_getR hx hb hts hown hK hR fl_Tn_19 (fun _ => rfl) h19 h21 d_Tn_clause_49 ?_
  refine lv_iload_n hx hb d_Tn_clause_52 rfl (lv_at hl 1 rfl) ?_
  have ⟨h22, hf⟩ := gd_e hf
  have ⟨h23, hf⟩ := gd_e hf
  refine g_iald hx hb hK hR h22 h23 d_Tn_clause_53 ?_
  refine g_nI hf (fun x24 hf => ?_)
  have ⟨x25, w26, h27, hf⟩ := kl_e hf
  refine g_ki0 (g_rV (As := [.int x24]) (rest := []) hx hb hml hown hts hK hR hS (c_Tn_takesWord l D cA oc B N a0 x24 w18 h27) I_Tn_takesWord m_446 mp_7 (gRecv hK hR (ci := 7) rfl h19) rfl rfl (Nat.le_of_ble_eq_true rfl) hl.1 ⟨Nat.le_of_ble_eq_true rfl, Nat.le_of_ble_eq_true rfl⟩ ⟨Nat.le_of_ble_eq_true rfl, Nat.le_of_ble_eq_true rfl⟩ d_Tn_clause_54) hS (fun H locs hR hS => ?_)
  refine lv_if_eq (tgt := 69) hx hb d_Tn_clause_57 (by decide) (fun hc => ?_) (fun hc => ?_)
  · have hf := cd_t hc hf
    refine lv_iconst (v := 0) hx hb d_Tn_clause_69 (by decide) ?_
    exact g_iret hx hb hr hlocks hR hS hf rfl d_Tn_clause_70
  have hf := cd_f hc hf
  refine lv_aload_n hx hb d_Tn_clause_60 rfl (lv_at hl 0 rfl) ?_
  refine lv_bipush (v := 32) hx hb d_Tn_clause_61 (by decide) ?_
  have ⟨h31, hf⟩ := gd_e hf
  have ⟨x28, w29, h30, hf⟩ := kl_e hf
  refine g_ki0 (g_rV (As := [.int 32]) (rest := []) hx hb hml hown hts hK hR hS (c_Tn_takes l D cA oc B N a0 32 w26 h30) I_Tn_takes m_501 mp_8 (gRecv hK hR (ci := 7) rfl h31) rfl rfl (Nat.le_of_ble_eq_true rfl) hl.1 ⟨Nat.le_of_ble_eq_true rfl, Nat.le_of_ble_eq_true rfl⟩ ⟨Nat.le_of_ble_eq_true rfl, Nat.le_of_ble_eq_true rfl⟩ d_Tn_clause_63) hS (fun H locs hR hS => ?_)
  refine lv_if_ne (tgt := 71) hx hb d_Tn_clause_66 (by decide) (fun hc => ?_) (fun hc => ?_)
  · have hf := cd_f hc hf
    refine lv_aload_n hx hb d_Tn_clause_71 rfl (lv_at hl 0 rfl) ?_
    have ⟨h32, hf⟩ := gd_e hf
    have ⟨x33, h34, hf⟩ := rr_e hf
    refine g_getR hx hb hts hown hK hR fl_Tn_22 (fun _ => rfl) h32 h34 d_Tn_clause_72 ?_
    refine lv_iload_n hx hb d_Tn_clause_75 rfl (lv_at hl 1 rfl) ?_
    refine lv_aload_n hx hb d_Tn_clause_76 rfl (lv_at hl 0 rfl) ?_
    have ⟨x35, w36, h37, hf⟩ := kl_e hf
    refine g_ki0 (g_rV (As := []) (rest := [.int a1, .ref (B + x33)]) hx hb hml hown hts hK hR hS (c_Tn_number l D cA oc B N a0 w29 h37) I_Tn_number m_505 mp_9 (gRecv hK hR (ci := 7) rfl h32) rfl rfl (Nat.le_of_ble_eq_true rfl) hl.1 ⟨Nat.le_of_ble_eq_true rfl, Nat.le_of_ble_eq_true rfl⟩ ⟨Nat.le_of_ble_eq_true rfl, Nat.le_of_ble_eq_true rfl⟩ d_Tn_clause_77) hS (fun H locs hR hS => ?_)
    have ⟨h38, hf⟩ := gd_e hf
    have ⟨h39, hf⟩ := gd_e hf
    refine g_iast hx hb hK hR hS h38 h39 d_Tn_clause_80 (fun H locs hR hS => ?_)
    refine g_nW hf hR (fun w40 hf hR => ?_)
    refine lv_aload_n hx hb d_Tn_clause_81 rfl (lv_at hl 0 rfl) ?_
    have ⟨h41, hf⟩ := gd_e hf
    have ⟨x42, h43, hf⟩ := rr_e hf
    refine g_getR hx hb hts hown hK hR fl_Tn_22 (fun _ => rfl) h41 h43 d_Tn_clause_82 ?_
    refine lv_iload_n hx hb d_Tn_clause_85 rfl (lv_at hl 1 rfl) ?_
    have ⟨h44, hf⟩ := gd_e hf
    have ⟨h45, hf⟩ := gd_e hf
    refine g_iald hx hb hK hR h44 h45 d_Tn_clause_86 ?_
    refine g_nI hf (fun x46 hf => ?_)
    refine lv_if_ge (tgt := 92) hx hb d_Tn_clause_87 (by decide) (fun hc => ?_) (fun hc => ?_)
    · have hf := cd_t hc hf
      refine lv_aload_n hx hb d_Tn_clause_92 rfl (lv_at hl 0 rfl) ?_
      have ⟨x47, h48, hf⟩ := rr_e hf
      refine g_getR hx hb hts hown hK hR fl_Tn_19 (fun _ => rfl) h41 h48 d_Tn_clause_93 ?_
      refine lv_iload_n hx hb d_Tn_clause_96 rfl (lv_at hl 1 rfl) ?_
      have ⟨h49, hf⟩ := gd_e hf
      have ⟨h50, hf⟩ := gd_e hf
      refine g_iald hx hb hK hR h49 h50 d_Tn_clause_97 ?_
      refine g_nI hf (fun x51 hf => ?_)
      refine lv_iconst (v := 2) hx hb d_Tn_clause_98 (by decide) ?_
      refine lv_icmp_eq (tgt := 121) hx hb d_Tn_clause_99 (by decide) (fun hc => ?_) (fun hc => ?_)
      · have hf := cd_t hc hf
        exact c_Tn_clause_b121 C a0 a1 w40 (lv_sub hl [0, 1] rfl) hf hR hS
      have hf := cd_f hc hf
      refine lv_aload_n hx hb d_Tn_clause_102 rfl (lv_at hl 0 rfl) ?_
      refine lv_bipush (v := 32) hx hb d_Tn_clause_103 (by decide) ?_
      have ⟨x63, w64, h65, hf⟩ := kl_e hf
      refine g_ki0 (g_rV (As := [.int 32]) (rest := []) hx hb hml hown hts hK hR hS (c_Tn_takes l D cA oc B N a0 32 w40 h65) I_Tn_takes m_501 mp_8 (gRecv hK hR (ci := 7) rfl h41) rfl rfl (Nat.le_of_ble_eq_true rfl) hl.1 ⟨Nat.le_of_ble_eq_true rfl, Nat.le_of_ble_eq_true rfl⟩ ⟨Nat.le_of_ble_eq_true rfl, Nat.le_of_ble_eq_true rfl⟩ d_Tn_clause_105) hS (fun H locs hR hS => ?_)
      refine lv_if_eq (tgt := 119) hx hb d_Tn_clause_108 (by decide) (fun hc => ?_) (fun hc => ?_)
      · have hf := cd_t hc hf
        refine lv_iconst (v := 0) hx hb d_Tn_clause_119 (by decide) ?_
        exact g_iret hx hb hr hlocks hR hS hf rfl d_Tn_clause_120
      have hf := cd_f hc hf
      refine lv_aload_n hx hb d_Tn_clause_111 rfl (lv_at hl 0 rfl) ?_
      refine lv_iconst (v := 0) hx hb d_Tn_clause_112 (by decide) ?_
      have ⟨h69, hf⟩ := gd_e hf
      have ⟨x66, w67, h68, hf⟩ := kl_e hf
      refine g_ki0 (g_rV (As := [.int 0]) (rest := []) (b := B + a0) hx hb hml hown hts hK hR hS (c_Tn_either l D cA oc B N a0 0 w64 h68) I_Tn_either m_513 mp_11 (gRecv hK hR (ci := 7) rfl h69) rfl rfl (Nat.le_of_ble_eq_true rfl) hl.1 ⟨Nat.le_of_ble_eq_true rfl, Nat.le_of_ble_eq_true rfl⟩ ⟨Nat.le_of_ble_eq_true rfl, Nat.le_of_ble_eq_true rfl⟩ d_Tn_clause_113) hS (fun H locs hR hS => ?_)
      refine lv_if_ne (tgt := 121) hx hb d_Tn_clause_116 (by decide) (fun hc => ?_) (fun hc => ?_)
      · have hf := cd_f hc hf
        exact c_Tn_clause_b121 C a0 a1 w67 (lv_sub hl [0, 1] rfl) hf hR hS
      have hf := cd_t hc hf
      refine lv_iconst (v := 0) hx hb d_Tn_clause_119 (by decide) ?_
      exact g_iret hx hb hr hlocks hR hS hf rfl d_Tn_clause_120
    have hf := cd_f hc hf
    refine lv_iconst (v := 0) hx hb d_Tn_clause_90 (by decide) ?_
    exact g_iret hx hb hr hlocks hR hS hf rfl d_Tn_clause_91
  have hf := cd_t hc hf
  refine lv_iconst (v := 0) hx hb d_Tn_clause_69 (by decide) ?_
  exact g_iret hx hb hr hlocks hR hS hf rfl d_Tn_clause_70
set_option maxRecDepth 20000 in
theorem c_Tn_clause_b0 {r : Int32} {wz : gW} (C : gC p s m args meth c "RidCoppers$Town" b_Tn_clause 3 (some .boolean) D cA oc B) (a0 : Nat) (w : gW) {ls : Array Slot} {H : Heap} {locs : List Loc} (hl : lv_has ls 3 [(0, .ref (B + a0))]) (hf : f_Tn_clause_b0 N a0 w = some (r, wz)) (hR : gRep D cA B w H) (hS : va_S (gA B) s.heap H locs) : W p l e ({ frames := 48, cells := 0, slots := 0, locals := 1000 } : Room) s m args below meth c H locs 0 0 (MQ below (gQi D cA B r wz) args s 0 0 (gA B)) (F0 m 0 ls []) := by
  obtain ⟨hx, hb, hml, hown, hts, hr, hlocks, hK, hBs⟩ := id C
  unfold f_Tn_clause_b0 at hf
  refine lv_aload_n hx hb d_Tn_clause_0 rfl (lv_at hl 0 rfl) ?_
  have ⟨h1, hf⟩ := gd_e hf
  refine g_getI hx hb hts hown hK hR fl_Tn_31 (fun _ => rfl) h1 d_Tn_clause_1 ?_
  refine g_nI hf (fun x2 hf => ?_)
  refine lv_istore_n (lv' := [(1, .int x2), (0, .ref (B + a0))]) hx hb d_Tn_clause_4 rfl hl (by decide) rfl (fun ls hl => ?_)
  refine lv_aload_n hx hb d_Tn_clause_5 rfl (lv_at hl 1 rfl) ?_
  have ⟨x3, w4, h5, hf⟩ := kl_e hf
  refine g_ki0 (g_rV (As := []) (rest := []) hx hb hml hown hts hK hR hS (c_Tn_ahead l D cA oc B N a0 w h5) I_Tn_ahead m_442 mp_6 (gRecv hK hR (ci := 7) rfl h1) rfl rfl (Nat.le_of_ble_eq_true rfl) hl.1 ⟨Nat.le_of_ble_eq_true rfl, Nat.le_of_ble_eq_true rfl⟩ ⟨Nat.le_of_ble_eq_true rfl, Nat.le_of_ble_eq_true rfl⟩ d_Tn_clause_6) hS (fun H locs hR hS => ?_)
  refine lv_istore_n (lv' := [(2, .int x3), (1, .int x2), (0, .ref (B + a0))]) hx hb d_Tn_clause_9 rfl hl (by decide) rfl (fun ls hl => ?_)
  refine lv_aload_n hx hb d_Tn_clause_10 rfl (lv_at hl 2 rfl) ?_
  have ⟨h6, hf⟩ := gd_e hf
  have ⟨x7, h8, hf⟩ := rr_e hf
  refine g_getR hx hb hts hown hK hR fl_Tn_19 (fun _ => rfl) h6 h8 d_Tn_clause_11 ?_
  refine lv_iload_n hx hb d_Tn_clause_14 rfl (lv_at hl 1 rfl) ?_
  refine lv_iload_n hx hb d_Tn_clause_15 rfl (lv_at hl 0 rfl) ?_
  refine lv_bipush (v := 104) hx hb d_Tn_clause_16 (by decide) ?_
  refine lv_icmp_ne (tgt := 25) hx hb d_Tn_clause_18 (by decide) (fun hc => ?_) (fun hc => ?_)
  · have hf := cd_f hc hf
    refine lv_iload_n hx hb d_Tn_clause_25 rfl (lv_at hl 0 rfl) ?_
    refine lv_bipush (v := 107) hx hb d_Tn_clause_26 (by decide) ?_
    refine lv_icmp_ne (tgt := 35) hx hb d_Tn_clause_28 (by decide) (fun hc => ?_) (fun hc => ?_)
    · have hf := cd_f hc hf
      refine lv_iconst (v := 2) hx hb d_Tn_clause_35 (by decide) ?_
      exact c_Tn_clause_b36 C a0 x2 2 x2 x7 w4 (lv_sub hl [2, 1] rfl) hf hR hS
    have hf := cd_t hc hf
    refine lv_iconst (v := 1) hx hb d_Tn_clause_31 (by decide) ?_
    refine lv_goto (tgt := 36) hx hb d_Tn_clause_32 (by decide) ?_
    exact c_Tn_clause_b36 C a0 x2 1 x2 x7 w4 (lv_sub hl [2, 1] rfl) hf hR hS
  have hf := cd_t hc hf
  refine lv_iconst (v := 0) hx hb d_Tn_clause_21 (by decide) ?_
  refine lv_goto (tgt := 36) hx hb d_Tn_clause_22 (by decide) ?_
  exact c_Tn_clause_b36 C a0 x2 0 x2 x7 w4 (lv_sub hl [2, 1] rfl) hf hR hS
theorem c_Tn_clause (l : Launch) (D : va_G) (cA : Nat → ClassId) (oc : gO) (B N : Nat) (a0 : Nat) (w : gW) {wz : gW} {r : Int32} (hf : f_Tn_clause N a0 w = some (r, wz)) : Met l y_Tn_clause (Cond.code y_Tn_clause b_Tn_clause 3 (some .boolean) :: lw_good) ({ frames := 48, cells := 0, slots := 0, locals := 1000 } : Room) (gPre D cA oc B [.ref (B + a0)] w) (gQi D cA B r wz) 0 0 (gA B) := by
  refine Met.ofW (cc := b_Tn_clause) (maxL := 3) (ret := (some .boolean)) (by decide +kernel) rfl ?_
  intro p e s m args below meth c s₁ Bd hml hv
  obtain ⟨hargs, C, hR⟩ := gC.enter (l := l) rfl Bd hml hv
  subst hargs
  have hl := lv_entry ([.ref (B + a0)]) (n := 3) (Nat.le_of_ble_eq_true rfl)
  rw [lg_entry_eq]
  generalize (lg_sl ([.ref (B + a0)]) ++ List.replicate (3 - (lg_sl ([.ref (B + a0)])).length) Slot.unset).toArray = ls at hl ⊢
  have hl : lv_has ls 3 [(0, .ref (B + a0))] := hl
  exact c_Tn_clause_b0 C a0 w (lv_sub hl [0] rfl) hf hR va_S.rf
theorem d_Tn_findHefts_0 : decode b_Tn_findHefts 0 = .ok (.iconst 0, 1) := by decide +kernel
theorem d_Tn_findHefts_1 : decode b_Tn_findHefts 1 = .ok (.istore_n 1, 1) := by decide +kernel
theorem d_Tn_findHefts_2 : decode b_Tn_findHefts 2 = .ok (.iconst 0, 1) := by decide +kernel
theorem d_Tn_findHefts_3 : decode b_Tn_findHefts 3 = .ok (.istore_n 2, 1) := by decide +kernel
theorem d_Tn_findHefts_4 : decode b_Tn_findHefts 4 = .ok (.iload_n 2, 1) := by decide +kernel
theorem d_Tn_findHefts_5 : decode b_Tn_findHefts 5 = .ok (.aload_n 0, 1) := by decide +kernel
theorem d_Tn_findHefts_6 : decode b_Tn_findHefts 6 = .ok (.getfield 31, 3) := by decide +kernel
theorem d_Tn_findHefts_9 : decode b_Tn_findHefts 9 = .ok (.if_icmp .ge 28, 3) := by decide +kernel
theorem d_Tn_findHefts_12 : decode b_Tn_findHefts 12 = .ok (.iload_n 1, 1) := by decide +kernel
theorem d_Tn_findHefts_13 : decode b_Tn_findHefts 13 = .ok (.ifCond .ne 12, 3) := by decide +kernel
theorem d_Tn_findHefts_16 : decode b_Tn_findHefts 16 = .ok (.aload_n 0, 1) := by decide +kernel
theorem d_Tn_findHefts_17 : decode b_Tn_findHefts 17 = .ok (.getfield 19, 3) := by decide +kernel
theorem d_Tn_findHefts_20 : decode b_Tn_findHefts 20 = .ok (.iload_n 2, 1) := by decide +kernel
theorem d_Tn_findHefts_21 : decode b_Tn_findHefts 21 = .ok (.iaload, 1) := by decide +kernel
theorem d_Tn_findHefts_22 : decode b_Tn_findHefts 22 = .ok (.ifCond .ne 7, 3) := by decide +kernel
theorem d_Tn_findHefts_25 : decode b_Tn_findHefts 25 = .ok (.iconst 1, 1) := by decide +kernel
theorem d_Tn_findHefts_26 : decode b_Tn_findHefts 26 = .ok (.goto 4, 3) := by decide +kernel
theorem d_Tn_findHefts_29 : decode b_Tn_findHefts 29 = .ok (.iconst 0, 1) := by decide +kernel
theorem d_Tn_findHefts_30 : decode b_Tn_findHefts 30 = .ok (.istore_n 1, 1) := by decide +kernel
theorem d_Tn_findHefts_31 : decode b_Tn_findHefts 31 = .ok (.iinc 2 1, 3) := by decide +kernel
theorem d_Tn_findHefts_34 : decode b_Tn_findHefts 34 = .ok (.goto (-30), 3) := by decide +kernel
theorem d_Tn_findHefts_37 : decode b_Tn_findHefts 37 = .ok (.iconst 0, 1) := by decide +kernel
theorem d_Tn_findHefts_38 : decode b_Tn_findHefts 38 = .ok (.istore_n 2, 1) := by decide +kernel
theorem d_Tn_findHefts_39 : decode b_Tn_findHefts 39 = .ok (.iload_n 2, 1) := by decide +kernel
theorem d_Tn_findHefts_40 : decode b_Tn_findHefts 40 = .ok (.bipush 6, 2) := by decide +kernel
theorem d_Tn_findHefts_42 : decode b_Tn_findHefts 42 = .ok (.if_icmp .ge 35, 3) := by decide +kernel
theorem d_Tn_findHefts_45 : decode b_Tn_findHefts 45 = .ok (.aload_n 0, 1) := by decide +kernel
theorem d_Tn_findHefts_46 : decode b_Tn_findHefts 46 = .ok (.iload_n 2, 1) := by decide +kernel
theorem d_Tn_findHefts_47 : decode b_Tn_findHefts 47 = .ok (.invokevirtual 67, 3) := by decide +kernel
theorem d_Tn_findHefts_50 : decode b_Tn_findHefts 50 = .ok (.aload_n 0, 1) := by decide +kernel
theorem d_Tn_findHefts_51 : decode b_Tn_findHefts 51 = .ok (.getfield 9, 3) := by decide +kernel
theorem d_Tn_findHefts_54 : decode b_Tn_findHefts 54 = .ok (.iload_n 2, 1) := by decide +kernel
theorem d_Tn_findHefts_55 : decode b_Tn_findHefts 55 = .ok (.iload_n 1, 1) := by decide +kernel
theorem d_Tn_findHefts_56 : decode b_Tn_findHefts 56 = .ok (.ifCond .eq 11, 3) := by decide +kernel
theorem d_Tn_findHefts_59 : decode b_Tn_findHefts 59 = .ok (.aload_n 0, 1) := by decide +kernel
theorem d_Tn_findHefts_60 : decode b_Tn_findHefts 60 = .ok (.iconst 0, 1) := by decide +kernel
theorem d_Tn_findHefts_61 : decode b_Tn_findHefts 61 = .ok (.invokevirtual 87, 3) := by decide +kernel
theorem d_Tn_findHefts_64 : decode b_Tn_findHefts 64 = .ok (.goto 6, 3) := by decide +kernel
theorem d_Tn_findHefts_67 : decode b_Tn_findHefts 67 = .ok (.iconst 2, 1) := by decide +kernel
theorem d_Tn_findHefts_68 : decode b_Tn_findHefts 68 = .ok (.iload_n 2, 1) := by decide +kernel
theorem d_Tn_findHefts_69 : decode b_Tn_findHefts 69 = .ok (.iadd, 1) := by decide +kernel
theorem d_Tn_findHefts_70 : decode b_Tn_findHefts 70 = .ok (.iastore, 1) := by decide +kernel
theorem d_Tn_findHefts_71 : decode b_Tn_findHefts 71 = .ok (.iinc 2 1, 3) := by decide +kernel
theorem d_Tn_findHefts_74 : decode b_Tn_findHefts 74 = .ok (.goto (-35), 3) := by decide +kernel
theorem d_Tn_findHefts_77 : decode b_Tn_findHefts 77 = .ok (.return_, 1) := by decide +kernel
set_option maxRecDepth 20000 in
theorem c_Tn_findHefts_b70 {r : Unit} {wz : gW} {rec39 : Nat × Int32 × Int32 × gW → Option (Unit × gW)} (ih39 : ∀ (a0 : Nat) (a1 : Int32) (a2 : Int32) (w : gW) (ls : Array Slot) (H : Heap) (locs : List Loc), rec39 (a0, a1, a2, w) = some (r, wz) → lv_has ls 3 [(0, .ref (B + a0)), (1, .int a1), (2, .int a2)] → gRep D cA B w H → va_S (gA B) s.heap H locs → W p l e ({ frames := 4, cells := 0, slots := 0, locals := 112 } : Room) s m args below meth c H locs 0 0 (MQ below (gQv D cA B r wz) args s 0 0 (gA B)) (F0 m 39 ls [])) (C : gC p s m args meth c "RidCoppers$Town" b_Tn_findHefts 3 none D cA oc B) (a0 : Nat) (a1 : Int32) (a2 : Int32) (z0 : Int32) (z1 : Int32) (z2 : Nat) (w : gW) {ls : Array Slot} {H : Heap} {locs : List Loc} (hl : lv_has ls 3 [(0, .ref (B + a0)), (1, .int a1), (2, .int a2)]) (hf : f_Tn_findHefts_b70 N rec39 a0 a1 a2 z0 z1 z2 w = some (r, wz)) (hR : gRep D cA B w H) (hS : va_S (gA B) s.heap H locs) : W p l e ({ frames := 4, cells := 0, slots := 0, locals := 112 } : Room) s m args below meth c H locs 0 0 (MQ below (gQv D cA B r wz) args s 0 0 (gA B)) (F0 m 70 ls [.int z0, .int z1, .ref (B + z2)]) := by
  obtain ⟨hx, hb, hml, hown, hts, hr, hlocks, hK, hBs⟩ := id C
  unfold f_Tn_findHefts_b70 at hf
  have ⟨h11, hf⟩ := gd_e hf
  have ⟨h12, hf⟩ := gd_e hf
  refine g_iast hx hb hK hR hS h11 h12 d_Tn_findHefts_70 (fun H locs hR hS => ?_)
  refine g_nW hf hR (fun w13 hf hR => ?_)
  refine g_iinc (lv' := fun x14 => [(2, .int x14), (0, .ref (B + a0)), (1, .int a1)]) hf hx hb d_Tn_findHefts_71 hl (k := 2) rfl (by decide) (by decide) (fun _ => rfl) (fun x14 ls hf hl => ?_)
  refine lv_goto (tgt := 39) hx hb d_Tn_findHefts_74 (by decide) ?_
  exact ih39 a0 a1 x14 w13 _ _ _ hf (lv_sub hl [1, 2, 0] rfl) hR hS
set_option maxRecDepth 20000 in
theorem c_Tn_findHefts_b39 {r : Unit} {wz : gW} {rec39 : Nat × Int32 × Int32 × gW → Option (Unit × gW)} (ih39 : ∀ (a0 : Nat) (a1 : Int32) (a2 : Int32) (w : gW) (ls : Array Slot) (H : Heap) (locs : List Loc), rec39 (a0, a1, a2, w) = some (r, wz) → lv_has ls 3 [(0, .ref (B + a0)), (1, .int a1), (2, .int a2)] → gRep D cA B w H → va_S (gA B) s.heap H locs → W p l e ({ frames := 4, cells := 0, slots := 0, locals := 112 } : Room) s m args below meth c H locs 0 0 (MQ below (gQv D cA B r wz) args s 0 0 (gA B)) (F0 m 39 ls [])) (C : gC p s m args meth c "RidCoppers$Town" b_Tn_findHefts 3 none D cA oc B) (a0 : Nat) (a1 : Int32) (a2 : Int32) (w : gW) {ls : Array Slot} {H : Heap} {locs : List Loc} (hl : lv_has ls 3 [(0, .ref (B + a0)), (1, .int a1), (2, .int a2)]) (hf : f_Tn_findHefts_b39 N rec39 a0 a1 a2 w = some (r, wz)) (hR : gRep D cA B w H) (hS : va_S (gA B) s.heap H locs) : W p l e ({ frames := 4, cells := 0, slots := 0, locals := 112 } : Room) s m args below meth c H locs 0 0 (MQ below (gQv D cA B r wz) args s 0 0 (gA B)) (F0 m 39 ls []) := by
  obtain ⟨hx, hb, hml, hown, hts, hr, hlocks, hK, hBs⟩ := id C
  unfold f_Tn_findHefts_b39 at hf
  refine lv_iload_n hx hb d_Tn_findHefts_39 rfl (lv_at hl 2 rfl) ?_
  refine lv_bipush (v := 6) hx hb d_Tn_findHefts_40 (by decide) ?_
  refine lv_icmp_ge (tgt := 77) hx hb d_Tn_findHefts_42 (by decide) (fun hc => ?_) (fun hc => ?_)
  · have hf := cd_t hc hf
    exact g_vret hx hb hr hlocks hR hS hf d_Tn_findHefts_77
  have hf := cd_f hc hf
  refine lv_aload_n hx hb d_Tn_findHefts_45 rfl (lv_at hl 0 rfl) ?_
  refine lv_iload_n hx hb d_Tn_findHefts_46 rfl (lv_at hl 2 rfl) ?_
  have ⟨h6, hf⟩ := gd_e hf
  have ⟨x3, w4, h5, hf⟩ := kl_e hf
  refine g_kv0 (g_rV (As := [.int a2]) (rest := []) hx hb hml hown hts hK hR hS (c_Tn_factsOf l D cA oc B N a0 a2 w h5) I_Tn_factsOf m_385 mp_1 (gRecv hK hR (ci := 7) rfl h6) rfl rfl (Nat.le_of_ble_eq_true rfl) hl.1 ⟨Nat.le_of_ble_eq_true rfl, Nat.le_of_ble_eq_true rfl⟩ ⟨Nat.le_of_ble_eq_true rfl, Nat.le_of_ble_eq_true rfl⟩ d_Tn_findHefts_47) hS (fun H locs hR hS => ?_)
  refine lv_aload_n hx hb d_Tn_findHefts_50 rfl (lv_at hl 0 rfl) ?_
  have ⟨h7, hf⟩ := gd_e hf
  have ⟨x8, h9, hf⟩ := rr_e hf
  refine g_getR hx hb hts hown hK hR fl_Tn_9 (fun _ => rfl) h7 h9 d_Tn_findHefts_51 ?_
  refine lv_iload_n hx hb d_Tn_findHefts_54 rfl (lv_at hl 2 rfl) ?_
  refine lv_iload_n hx hb d_Tn_findHefts_55 rfl (lv_at hl 1 rfl) ?_
  refine lv_if_eq (tgt := 67) hx hb d_Tn_findHefts_56 (by decide) (fun hc => ?_) (fun hc => ?_)
  · have hf := cd_t hc hf
    refine lv_iconst (v := 2) hx hb d_Tn_findHefts_67 (by decide) ?_
    refine lv_iload_n hx hb d_Tn_findHefts_68 rfl (lv_at hl 2 rfl) ?_
    refine lv_iadd hx hb d_Tn_findHefts_69 ?_
    refine g_nI hf (fun x10 hf => ?_)
    exact c_Tn_findHefts_b70 ih39 C a0 a1 a2 x10 a2 x8 w4 (lv_sub hl [0, 1, 2] rfl) hf hR hS
  have hf := cd_f hc hf
  refine lv_aload_n hx hb d_Tn_findHefts_59 rfl (lv_at hl 0 rfl) ?_
  refine lv_iconst (v := 0) hx hb d_Tn_findHefts_60 (by decide) ?_
  have ⟨x15, w16, h17, hf⟩ := kl_e hf
  refine g_ki0 (g_rV (As := [.int 0]) (rest := [.int a2, .ref (B + x8)]) hx hb hml hown hts hK hR hS (c_Tn_together l D cA oc B N a0 0 w4 h17) I_Tn_together m_391 mp_2 (gRecv hK hR (ci := 7) rfl h7) rfl rfl (Nat.le_of_ble_eq_true rfl) hl.1 ⟨Nat.le_of_ble_eq_true rfl, Nat.le_of_ble_eq_true rfl⟩ ⟨Nat.le_of_ble_eq_true rfl, Nat.le_of_ble_eq_true rfl⟩ d_Tn_findHefts_61) hS (fun H locs hR hS => ?_)
  refine lv_goto (tgt := 70) hx hb d_Tn_findHefts_64 (by decide) ?_
  exact c_Tn_findHefts_b70 ih39 C a0 a1 a2 x15 a2 x8 w16 (lv_sub hl [0, 1, 2] rfl) hf hR hS
theorem c_Tn_findHefts_l39 {r : Unit} {wz : gW} (C : gC p s m args meth c "RidCoppers$Town" b_Tn_findHefts 3 none D cA oc B) (a0 : Nat) (a1 : Int32) (a2 : Int32) (w : gW) {ls : Array Slot} {H : Heap} {locs : List Loc} (hl : lv_has ls 3 [(0, .ref (B + a0)), (1, .int a1), (2, .int a2)]) (hf : f_Tn_findHefts_l39 N a0 a1 a2 w = some (r, wz)) (hR : gRep D cA B w H) (hS : va_S (gA B) s.heap H locs) : W p l e ({ frames := 4, cells := 0, slots := 0, locals := 112 } : Room) s m args below meth c H locs 0 0 (MQ below (gQv D cA B r wz) args s 0 0 (gA B)) (F0 m 39 ls []) := by
  unfold f_Tn_findHefts_l39 at hf
  suffices hh : ∀ n : Nat, ∀ (a0 : Nat) (a1 : Int32) (a2 : Int32) (w : gW) (ls : Array Slot) (H : Heap) (locs : List Loc), itr (fun rec (q : Nat × Int32 × Int32 × gW) => f_Tn_findHefts_b39 N rec q.1 q.2.1 q.2.2.1 q.2.2.2) n (a0, a1, a2, w) = some (r, wz) → lv_has ls 3 [(0, .ref (B + a0)), (1, .int a1), (2, .int a2)] → gRep D cA B w H → va_S (gA B) s.heap H locs → W p l e ({ frames := 4, cells := 0, slots := 0, locals := 112 } : Room) s m args below meth c H locs 0 0 (MQ below (gQv D cA B r wz) args s 0 0 (gA B)) (F0 m 39 ls []) from hh N a0 a1 a2 w ls H locs hf hl hR hS
  intro n
  induction n with
  | zero => intro a0 a1 a2 w ls H locs hf; cases hf
  | succ n ihn =>
    intro a0 a1 a2 w ls H locs hf hl hR hS
    exact c_Tn_findHefts_b39 (N := N) ihn C a0 a1 a2 w hl ((itr_s _ _ _).symm.trans hf) hR hS
set_option maxRecDepth 20000 in
theorem c_Tn_findHefts_b4 {r : Unit} {wz : gW} {rec4 : Nat × Int32 × Int32 × gW → Option (Unit × gW)} (ih4 : ∀ (a0 : Nat) (a1 : Int32) (a2 : Int32) (w : gW) (ls : Array Slot) (H : Heap) (locs : List Loc), rec4 (a0, a1, a2, w) = some (r, wz) → lv_has ls 3 [(0, .ref (B + a0)), (1, .int a1), (2, .int a2)] → gRep D cA B w H → va_S (gA B) s.heap H locs → W p l e ({ frames := 4, cells := 0, slots := 0, locals := 112 } : Room) s m args below meth c H locs 0 0 (MQ below (gQv D cA B r wz) args s 0 0 (gA B)) (F0 m 4 ls [])) (C : gC p s m args meth c "RidCoppers$Town" b_Tn_findHefts 3 none D cA oc B) (a0 : Nat) (a1 : Int32) (a2 : Int32) (w : gW) {ls : Array Slot} {H : Heap} {locs : List Loc} (hl : lv_has ls 3 [(0, .ref (B + a0)), (1, .int a1), (2, .int a2)]) (hf : f_Tn_findHefts_b4 N rec4 a0 a1 a2 w = some (r, wz)) (hR : gRep D cA B w H) (hS : va_S (gA B) s.heap H locs) : W p l e ({ frames := 4, cells := 0, slots := 0, locals := 112 } : Room) s m args below meth c H locs 0 0 (MQ below (gQv D cA B r wz) args s 0 0 (gA B)) (F0 m 4 ls []) := by
  obtain ⟨hx, hb, hml, hown, hts, hr, hlocks, hK, hBs⟩ := id C
  unfold f_Tn_findHefts_b4 at hf
  refine lv_iload_n hx hb d_Tn_findHefts_4 rfl (lv_at hl 2 rfl) ?_
  refine lv_aload_n hx hb d_Tn_findHefts_5 rfl (lv_at hl 0 rfl) ?_
  have ⟨h1, hf⟩ := gd_e hf
  refine g_getI hx hb hts hown hK hR fl_Tn_31 (fun _ => rfl) h1 d_Tn_findHefts_6 ?_
  refine g_nI hf (fun x2 hf => ?_)
  refine lv_icmp_ge (tgt := 37) hx hb d_Tn_findHefts_9 (by decide) (fun hc => ?_) (fun hc => ?_)
  · have hf := cd_t hc hf
    refine lv_iconst (v := 0) hx hb d_Tn_findHefts_37 (by decide) ?_
    refine lv_istore_n (lv' := [(2, .int 0), (0, .ref (B + a0)), (1, .int a1)]) hx hb d_Tn_findHefts_38 rfl hl (by decide) rfl (fun ls hl => ?_)
    exact c_Tn_findHefts_l39 C a0 a1 0 w (lv_sub hl [1, 2, 0] rfl) hf hR hS
  have hf := cd_f hc hf
  refine lv_iload_n hx hb d_Tn_findHefts_12 rfl (lv_at hl 1 rfl) ?_
  refine lv_if_ne (tgt := 25) hx hb d_Tn_findHefts_13 (by decide) (fun hc => ?_) (fun hc => ?_)
  · have hf := cd_f hc hf
    refine lv_iconst (v := 1) hx hb d_Tn_findHefts_25 (by decide) ?_
    refine lv_goto (tgt := 30) hx hb d_Tn_findHefts_26 (by decide) ?_
    refine lv_istore_n (lv' := [(1, .int 1), (0, .ref (B + a0)), (2, .int a2)]) hx hb d_Tn_findHefts_30 rfl hl (by decide) rfl (fun ls hl => ?_)
    refine g_iinc (lv' := fun x18 => [(2, .int x18), (1, .int 1), (0, .ref (B + a0))]) hf hx hb d_Tn_findHefts_31 hl (k := 2) rfl (by decide) (by decide) (fun _ => rfl) (fun x18 ls hf hl => ?_)
    refine lv_goto (tgt := 4) hx hb d_Tn_findHefts_34 (by decide) ?_
    exact ih4 a0 1 x18 w _ _ _ hf (lv_sub hl [2, 1, 0] rfl) hR hS
  have hf := cd_t hc hf
  refine lv_aload_n hx hb d_Tn_findHefts_16 rfl (lv_at hl 0 rfl) ?_
  have ⟨x19, h20, hf⟩ := rr_e hf
  refine g_getR hx hb hts hown hK hR fl_Tn_19 (fun _ => rfl) h1 h20 d_Tn_findHefts_17 ?_
  refine lv_iload_n hx hb d_Tn_findHefts_20 rfl (lv_at hl 2 rfl) ?_
  have ⟨h21, hf⟩ := gd_e hf
  have ⟨h22, hf⟩ := gd_e hf
  refine g_iald hx hb hK hR h21 h22 d_Tn_findHefts_21 ?_
  refine g_nI hf (fun x23 hf => ?_)
  refine lv_if_ne (tgt := 29) hx hb d_Tn_findHefts_22 (by decide) (fun hc => ?_) (fun hc => ?_)
  · have hf := cd_f hc hf
    refine lv_iconst (v := 0) hx hb d_Tn_findHefts_29 (by decide) ?_
    refine lv_istore_n (lv' := [(1, .int 0), (0, .ref (B + a0)), (2, .int a2)]) hx hb d_Tn_findHefts_30 rfl hl (by decide) rfl (fun ls hl => ?_)
    refine g_iinc (lv' := fun x24 => [(2, .int x24), (1, .int 0), (0, .ref (B + a0))]) hf hx hb d_Tn_findHefts_31 hl (k := 2) rfl (by decide) (by decide) (fun _ => rfl) (fun x24 ls hf hl => ?_)
    refine lv_goto (tgt := 4) hx hb d_Tn_findHefts_34 (by decide) ?_
    exact ih4 a0 0 x24 w _ _ _ hf (lv_sub hl [2, 1, 0] rfl) hR hS
  have hf := cd_t hc hf
  refine lv_iconst (v := 1) hx hb d_Tn_findHefts_25 (by decide) ?_
  refine lv_goto (tgt := 30) hx hb d_Tn_findHefts_26 (by decide) ?_
  refine lv_istore_n (lv' := [(1, .int 1), (0, .ref (B + a0)), (2, .int a2)]) hx hb d_Tn_findHefts_30 rfl hl (by decide) rfl (fun ls hl => ?_)
  refine g_iinc (lv' := fun x25 => [(2, .int x25), (1, .int 1), (0, .ref (B + a0))]) hf hx hb d_Tn_findHefts_31 hl (k := 2) rfl (by decide) (by decide) (fun _ => rfl) (fun x25 ls hf hl => ?_)
  refine lv_goto (tgt := 4) hx hb d_Tn_findHefts_34 (by decide) ?_
  exact ih4 a0 1 x25 w _ _ _ hf (lv_sub hl [2, 1, 0] rfl) hR hS
theorem c_Tn_findHefts_l4 {r : Unit} {wz : gW} (C : gC p s m args meth c "RidCoppers$Town" b_Tn_findHefts 3 none D cA oc B) (a0 : Nat) (a1 : Int32) (a2 : Int32) (w : gW) {ls : Array Slot} {H : Heap} {locs : List Loc} (hl : lv_has ls 3 [(0, .ref (B + a0)), (1, .int a1), (2, .int a2)]) (hf : f_Tn_findHefts_l4 N a0 a1 a2 w = some (r, wz)) (hR : gRep D cA B w H) (hS : va_S (gA B) s.heap H locs) : W p l e ({ frames := 4, cells := 0, slots := 0, locals := 112 } : Room) s m args below meth c H locs 0 0 (MQ below (gQv D cA B r wz) args s 0 0 (gA B)) (F0 m 4 ls []) := by
  unfold f_Tn_findHefts_l4 at hf
  suffices hh : ∀ n : Nat, ∀ (a0 : Nat) (a1 : Int32) (a2 : Int32) (w : gW) (ls : Array Slot) (H : Heap) (locs : List Loc), itr (fun rec (q : Nat × Int32 × Int32 × gW) => f_Tn_findHefts_b4 N rec q.1 q.2.1 q.2.2.1 q.2.2.2) n (a0, a1, a2, w) = some (r, wz) → lv_has ls 3 [(0, .ref (B + a0)), (1, .int a1), (2, .int a2)] → gRep D cA B w H → va_S (gA B) s.heap H locs → W p l e ({ frames := 4, cells := 0, slots := 0, locals := 112 } : Room) s m args below meth c H locs 0 0 (MQ below (gQv D cA B r wz) args s 0 0 (gA B)) (F0 m 4 ls []) from hh N a0 a1 a2 w ls H locs hf hl hR hS
  intro n
  induction n with
  | zero => intro a0 a1 a2 w ls H locs hf; cases hf
  | succ n ihn =>
    intro a0 a1 a2 w ls H locs hf hl hR hS
    exact c_Tn_findHefts_b4 (N := N) ihn C a0 a1 a2 w hl ((itr_s _ _ _).symm.trans hf) hR hS
set_option maxRecDepth 20000 in
theorem c_Tn_findHefts_b0 {r : Unit} {wz : gW} (C : gC p s m args meth c "RidCoppers$Town" b_Tn_findHefts 3 none D cA oc B) (a0 : Nat) (w : gW) {ls : Array Slot} {H : Heap} {locs : List Loc} (hl : lv_has ls 3 [(0, .ref (B + a0))]) (hf : f_Tn_findHefts_b0 N a0 w = some (r, wz)) (hR : gRep D cA B w H) (hS : va_S (gA B) s.heap H locs) : W p l e ({ frames := 4, cells := 0, slots := 0, locals := 112 } : Room) s m args below meth c H locs 0 0 (MQ below (gQv D cA B r wz) args s 0 0 (gA B)) (F0 m 0 ls []) := by
  obtain ⟨hx, hb, hml, hown, hts, hr, hlocks, hK, hBs⟩ := id C
  unfold f_Tn_findHefts_b0 at hf
  refine lv_iconst (v := 0) hx hb d_Tn_findHefts_0 (by decide) ?_
  refine lv_istore_n (lv' := [(1, .int 0), (0, .ref (B + a0))]) hx hb d_Tn_findHefts_1 rfl hl (by decide) rfl (fun ls hl => ?_)
  refine lv_iconst (v := 0) hx hb d_Tn_findHefts_2 (by decide) ?_
  refine lv_istore_n (lv' := [(2, .int 0), (1, .int 0), (0, .ref (B + a0))]) hx hb d_Tn_findHefts_3 rfl hl (by decide) rfl (fun ls hl => ?_)
  exact c_Tn_findHefts_l4 C a0 0 0 w (lv_sub hl [2, 1, 0] rfl) hf hR hS
theorem c_Tn_findHefts (l : Launch) (D : va_G) (cA : Nat → ClassId) (oc : gO) (B N : Nat) (a0 : Nat) (w : gW) {wz : gW} {r : Unit} (hf : f_Tn_findHefts N a0 w = some (r, wz)) : Met l y_Tn_findHefts (Cond.code y_Tn_findHefts b_Tn_findHefts 3 none :: lw_good) ({ frames := 4, cells := 0, slots := 0, locals := 112 } : Room) (gPre D cA oc B [.ref (B + a0)] w) (gQv D cA B r wz) 0 0 (gA B) := by
  refine Met.ofW (cc := b_Tn_findHefts) (maxL := 3) (ret := none) (by decide +kernel) rfl ?_
  intro p e s m args below meth c s₁ Bd hml hv
  obtain ⟨hargs, C, hR⟩ := gC.enter (l := l) rfl Bd hml hv
  subst hargs
  have hl := lv_entry ([.ref (B + a0)]) (n := 3) (Nat.le_of_ble_eq_true rfl)
  rw [lg_entry_eq]
  generalize (lg_sl ([.ref (B + a0)]) ++ List.replicate (3 - (lg_sl ([.ref (B + a0)])).length) Slot.unset).toArray = ls at hl ⊢
  have hl : lv_has ls 3 [(0, .ref (B + a0))] := hl
  exact c_Tn_findHefts_b0 C a0 w (lv_sub hl [0] rfl) hf hR va_S.rf
theorem d_Tn_findMost_0 : decode b_Tn_findMost 0 = .ok (.aload_n 0, 1) := by decide +kernel
theorem d_Tn_findMost_1 : decode b_Tn_findMost 1 = .ok (.iconst 2, 1) := by decide +kernel
theorem d_Tn_findMost_2 : decode b_Tn_findMost 2 = .ok (.putfield 15, 3) := by decide +kernel
theorem d_Tn_findMost_5 : decode b_Tn_findMost 5 = .ok (.iconst 0, 1) := by decide +kernel
theorem d_Tn_findMost_6 : decode b_Tn_findMost 6 = .ok (.istore_n 1, 1) := by decide +kernel
theorem d_Tn_findMost_7 : decode b_Tn_findMost 7 = .ok (.iload_n 1, 1) := by decide +kernel
theorem d_Tn_findMost_8 : decode b_Tn_findMost 8 = .ok (.aload_n 0, 1) := by decide +kernel
theorem d_Tn_findMost_9 : decode b_Tn_findMost 9 = .ok (.getfield 31, 3) := by decide +kernel
theorem d_Tn_findMost_12 : decode b_Tn_findMost 12 = .ok (.if_icmp .ge 33, 3) := by decide +kernel
theorem d_Tn_findMost_15 : decode b_Tn_findMost 15 = .ok (.aload_n 0, 1) := by decide +kernel
theorem d_Tn_findMost_16 : decode b_Tn_findMost 16 = .ok (.getfield 19, 3) := by decide +kernel
theorem d_Tn_findMost_19 : decode b_Tn_findMost 19 = .ok (.iload_n 1, 1) := by decide +kernel
theorem d_Tn_findMost_20 : decode b_Tn_findMost 20 = .ok (.iaload, 1) := by decide +kernel
theorem d_Tn_findMost_21 : decode b_Tn_findMost 21 = .ok (.iconst 2, 1) := by decide +kernel
theorem d_Tn_findMost_22 : decode b_Tn_findMost 22 = .ok (.if_icmp .ne 17, 3) := by decide +kernel
theorem d_Tn_findMost_25 : decode b_Tn_findMost 25 = .ok (.aload_n 0, 1) := by decide +kernel
theorem d_Tn_findMost_26 : decode b_Tn_findMost 26 = .ok (.iconst 2, 1) := by decide +kernel
theorem d_Tn_findMost_27 : decode b_Tn_findMost 27 = .ok (.aload_n 0, 1) := by decide +kernel
theorem d_Tn_findMost_28 : decode b_Tn_findMost 28 = .ok (.getfield 22, 3) := by decide +kernel
theorem d_Tn_findMost_31 : decode b_Tn_findMost 31 = .ok (.iload_n 1, 1) := by decide +kernel
theorem d_Tn_findMost_32 : decode b_Tn_findMost 32 = .ok (.iaload, 1) := by decide +kernel
theorem d_Tn_findMost_33 : decode b_Tn_findMost 33 = .ok (.invokestatic 91, 3) := by decide +kernel
theorem d_Tn_findMost_36 : decode b_Tn_findMost 36 = .ok (.putfield 15, 3) := by decide +kernel
theorem d_Tn_findMost_39 : decode b_Tn_findMost 39 = .ok (.iinc 1 1, 3) := by decide +kernel
theorem d_Tn_findMost_42 : decode b_Tn_findMost 42 = .ok (.goto (-35), 3) := by decide +kernel
theorem d_Tn_findMost_45 : decode b_Tn_findMost 45 = .ok (.return_, 1) := by decide +kernel
set_option maxRecDepth 20000 in
theorem c_Tn_findMost_b7 {r : Unit} {wz : gW} {rec7 : Nat × Int32 × gW → Option (Unit × gW)} (ih7 : ∀ (a0 : Nat) (a1 : Int32) (w : gW) (ls : Array Slot) (H : Heap) (locs : List Loc), rec7 (a0, a1, w) = some (r, wz) → lv_has ls 2 [(0, .ref (B + a0)), (1, .int a1)] → gRep D cA B w H → va_S (gA B) s.heap H locs → W p l e ({ frames := 1, cells := 0, slots := 0, locals := 60 } : Room) s m args below meth c H locs 0 0 (MQ below (gQv D cA B r wz) args s 0 0 (gA B)) (F0 m 7 ls [])) (C : gC p s m args meth c "RidCoppers$Town" b_Tn_findMost 2 none D cA oc B) (a0 : Nat) (a1 : Int32) (w : gW) {ls : Array Slot} {H : Heap} {locs : List Loc} (hl : lv_has ls 2 [(0, .ref (B + a0)), (1, .int a1)]) (hf : f_Tn_findMost_b7 N rec7 a0 a1 w = some (r, wz)) (hR : gRep D cA B w H) (hS : va_S (gA B) s.heap H locs) : W p l e ({ frames := 1, cells := 0, slots := 0, locals := 60 } : Room) s m args below meth c H locs 0 0 (MQ below (gQv D cA B r wz) args s 0 0 (gA B)) (F0 m 7 ls []) := by
  obtain ⟨hx, hb, hml, hown, hts, hr, hlocks, hK, hBs⟩ := id C
  unfold f_Tn_findMost_b7 at hf
  refine lv_iload_n hx hb d_Tn_findMost_7 rfl (lv_at hl 1 rfl) ?_
  refine lv_aload_n hx hb d_Tn_findMost_8 rfl (lv_at hl 0 rfl) ?_
  have ⟨h3, hf⟩ := gd_e hf
  refine g_getI hx hb hts hown hK hR fl_Tn_31 (fun _ => rfl) h3 d_Tn_findMost_9 ?_
  refine g_nI hf (fun x4 hf => ?_)
  refine lv_icmp_ge (tgt := 45) hx hb d_Tn_findMost_12 (by decide) (fun hc => ?_) (fun hc => ?_)
  · have hf := cd_t hc hf
    exact g_vret hx hb hr hlocks hR hS hf d_Tn_findMost_45
  have hf := cd_f hc hf
  refine lv_aload_n hx hb d_Tn_findMost_15 rfl (lv_at hl 0 rfl) ?_
  have ⟨x5, h6, hf⟩ := rr_e hf
  refine g_getR hx hb hts hown hK hR fl_Tn_19 (fun _ => rfl) h3 h6 d_Tn_findMost_16 ?_
  refine lv_iload_n hx hb d_Tn_findMost_19 rfl (lv_at hl 1 rfl) ?_
  have ⟨h7, hf⟩ := gd_e hf
  have ⟨h8, hf⟩ := gd_e hf
  refine g_iald hx hb hK hR h7 h8 d_Tn_findMost_20 ?_
  refine g_nI hf (fun x9 hf => ?_)
  refine lv_iconst (v := 2) hx hb d_Tn_findMost_21 (by decide) ?_
  refine lv_icmp_ne (tgt := 39) hx hb d_Tn_findMost_22 (by decide) (fun hc => ?_) (fun hc => ?_)
  · have hf := cd_f hc hf
    refine g_iinc (lv' := fun x10 => [(1, .int x10), (0, .ref (B + a0))]) hf hx hb d_Tn_findMost_39 hl (k := 1) rfl (by decide) (by decide) (fun _ => rfl) (fun x10 ls hf hl => ?_)
    refine lv_goto (tgt := 7) hx hb d_Tn_findMost_42 (by decide) ?_
    exact ih7 a0 x10 w _ _ _ hf (lv_sub hl [1, 0] rfl) hR hS
  have hf := cd_t hc hf
  refine lv_aload_n hx hb d_Tn_findMost_25 rfl (lv_at hl 0 rfl) ?_
  refine lv_iconst (v := 2) hx hb d_Tn_findMost_26 (by decide) ?_
  refine lv_aload_n hx hb d_Tn_findMost_27 rfl (lv_at hl 0 rfl) ?_
  have ⟨x11, h12, hf⟩ := rr_e hf
  refine g_getR hx hb hts hown hK hR fl_Tn_22 (fun _ => rfl) h3 h12 d_Tn_findMost_28 ?_
  refine lv_iload_n hx hb d_Tn_findMost_31 rfl (lv_at hl 1 rfl) ?_
  have ⟨h13, hf⟩ := gd_e hf
  have ⟨h14, hf⟩ := gd_e hf
  refine g_iald hx hb hK hR h13 h14 d_Tn_findMost_32 ?_
  refine g_nI hf (fun x15 hf => ?_)
  refine va_mmin hx hb (hml.trans hl.1.symm) hown (hts _ m_602) (hts _ m_553) (hts _ m_18) (hts _ m_554) (Nat.le_of_ble_eq_true rfl) (Nat.le_of_ble_eq_true rfl) (Nat.zero_le _) (Nat.zero_le _) d_Tn_findMost_33 ?_
  refine g_nI hf (fun x16 hf => ?_)
  refine g_putI hx hb hts hown hK hR hS pf_Tn_15 (fun _ => rfl) rfl rfl h3 d_Tn_findMost_36 (fun H locs hR hS => ?_)
  refine g_nW hf hR (fun w17 hf hR => ?_)
  refine g_iinc (lv' := fun x18 => [(1, .int x18), (0, .ref (B + a0))]) hf hx hb d_Tn_findMost_39 hl (k := 1) rfl (by decide) (by decide) (fun _ => rfl) (fun x18 ls hf hl => ?_)
  refine lv_goto (tgt := 7) hx hb d_Tn_findMost_42 (by decide) ?_
  exact ih7 a0 x18 w17 _ _ _ hf (lv_sub hl [1, 0] rfl) hR hS
theorem c_Tn_findMost_l7 {r : Unit} {wz : gW} (C : gC p s m args meth c "RidCoppers$Town" b_Tn_findMost 2 none D cA oc B) (a0 : Nat) (a1 : Int32) (w : gW) {ls : Array Slot} {H : Heap} {locs : List Loc} (hl : lv_has ls 2 [(0, .ref (B + a0)), (1, .int a1)]) (hf : f_Tn_findMost_l7 N a0 a1 w = some (r, wz)) (hR : gRep D cA B w H) (hS : va_S (gA B) s.heap H locs) : W p l e ({ frames := 1, cells := 0, slots := 0, locals := 60 } : Room) s m args below meth c H locs 0 0 (MQ below (gQv D cA B r wz) args s 0 0 (gA B)) (F0 m 7 ls []) := by
  unfold f_Tn_findMost_l7 at hf
  suffices hh : ∀ n : Nat, ∀ (a0 : Nat) (a1 : Int32) (w : gW) (ls : Array Slot) (H : Heap) (locs : List Loc), itr (fun rec (q : Nat × Int32 × gW) => f_Tn_findMost_b7 N rec q.1 q.2.1 q.2.2) n (a0, a1, w) = some (r, wz) → lv_has ls 2 [(0, .ref (B + a0)), (1, .int a1)] → gRep D cA B w H → va_S (gA B) s.heap H locs → W p l e ({ frames := 1, cells := 0, slots := 0, locals := 60 } : Room) s m args below meth c H locs 0 0 (MQ below (gQv D cA B r wz) args s 0 0 (gA B)) (F0 m 7 ls []) from hh N a0 a1 w ls H locs hf hl hR hS
  intro n
  induction n with
  | zero => intro a0 a1 w ls H locs hf; cases hf
  | succ n ihn =>
    intro a0 a1 w ls H locs hf hl hR hS
    exact c_Tn_findMost_b7 (N := N) ihn C a0 a1 w hl ((itr_s _ _ _).symm.trans hf) hR hS
set_option maxRecDepth 20000 in
theorem c_Tn_findMost_b0 {r : Unit} {wz : gW} (C : gC p s m args meth c "RidCoppers$Town" b_Tn_findMost 2 none D cA oc B) (a0 : Nat) (w : gW) {ls : Array Slot} {H : Heap} {locs : List Loc} (hl : lv_has ls 2 [(0, .ref (B + a0))]) (hf : f_Tn_findMost_b0 N a0 w = some (r, wz)) (hR : gRep D cA B w H) (hS : va_S (gA B) s.heap H locs) : W p l e ({ frames := 1, cells := 0, slots := 0, locals := 60 } : Room) s m args below meth c H locs 0 0 (MQ below (gQv D cA B r wz) args s 0 0 (gA B)) (F0 m 0 ls []) := by
  obtain ⟨hx, hb, hml, hown, hts, hr, hlocks, hK, hBs⟩ := id C
  unfold f_Tn_findMost_b0 at hf
  refine lv_aload_n hx hb d_Tn_findMost_0 rfl (lv_at hl 0 rfl) ?_
  refine lv_iconst (v := 2) hx hb d_Tn_findMost_1 (by decide) ?_
  have ⟨h1, hf⟩ := gd_e hf
  refine g_putI hx hb hts hown hK hR hS pf_Tn_15 (fun _ => rfl) rfl rfl h1 d_Tn_findMost_2 (fun H locs hR hS => ?_)
  refine g_nW hf hR (fun w2 hf hR => ?_)
  refine lv_iconst (v := 0) hx hb d_Tn_findMost_5 (by decide) ?_
  refine lv_istore_n (lv' := [(1, .int 0), (0, .ref (B + a0))]) hx hb d_Tn_findMost_6 rfl hl (by decide) rfl (fun ls hl => ?_)
  exact c_Tn_findMost_l7 C a0 0 w2 (lv_sub hl [1, 0] rfl) hf hR hS
theorem c_Tn_findMost (l : Launch) (D : va_G) (cA : Nat → ClassId) (oc : gO) (B N : Nat) (a0 : Nat) (w : gW) {wz : gW} {r : Unit} (hf : f_Tn_findMost N a0 w = some (r, wz)) : Met l y_Tn_findMost (Cond.code y_Tn_findMost b_Tn_findMost 2 none :: lw_good) ({ frames := 1, cells := 0, slots := 0, locals := 60 } : Room) (gPre D cA oc B [.ref (B + a0)] w) (gQv D cA B r wz) 0 0 (gA B) := by
  refine Met.ofW (cc := b_Tn_findMost) (maxL := 2) (ret := none) (by decide +kernel) rfl ?_
  intro p e s m args below meth c s₁ Bd hml hv
  obtain ⟨hargs, C, hR⟩ := gC.enter (l := l) rfl Bd hml hv
  subst hargs
  have hl := lv_entry ([.ref (B + a0)]) (n := 2) (Nat.le_of_ble_eq_true rfl)
  rw [lg_entry_eq]
  generalize (lg_sl ([.ref (B + a0)]) ++ List.replicate (2 - (lg_sl ([.ref (B + a0)])).length) Slot.unset).toArray = ls at hl ⊢
  have hl : lv_has ls 2 [(0, .ref (B + a0))] := hl
  exact c_Tn_findMost_b0 C a0 w (lv_sub hl [0] rfl) hf hR va_S.rf
theorem d_Tn_faultOf_0 : decode b_Tn_faultOf 0 = .ok (.aload_n 0, 1) := by decide +kernel
theorem d_Tn_faultOf_1 : decode b_Tn_faultOf 1 = .ok (.aload_n 1, 1) := by decide +kernel
theorem d_Tn_faultOf_2 : decode b_Tn_faultOf 2 = .ok (.putfield 43, 3) := by decide +kernel
theorem d_Tn_faultOf_5 : decode b_Tn_faultOf 5 = .ok (.aload_n 0, 1) := by decide +kernel
theorem d_Tn_faultOf_6 : decode b_Tn_faultOf 6 = .ok (.iload_n 2, 1) := by decide +kernel
theorem d_Tn_faultOf_7 : decode b_Tn_faultOf 7 = .ok (.putfield 47, 3) := by decide +kernel
theorem d_Tn_faultOf_10 : decode b_Tn_faultOf 10 = .ok (.aload_n 0, 1) := by decide +kernel
theorem d_Tn_faultOf_11 : decode b_Tn_faultOf 11 = .ok (.iconst 0, 1) := by decide +kernel
theorem d_Tn_faultOf_12 : decode b_Tn_faultOf 12 = .ok (.putfield 50, 3) := by decide +kernel
theorem d_Tn_faultOf_15 : decode b_Tn_faultOf 15 = .ok (.aload_n 0, 1) := by decide +kernel
theorem d_Tn_faultOf_16 : decode b_Tn_faultOf 16 = .ok (.iconst 0, 1) := by decide +kernel
theorem d_Tn_faultOf_17 : decode b_Tn_faultOf 17 = .ok (.putfield 37, 3) := by decide +kernel
theorem d_Tn_faultOf_20 : decode b_Tn_faultOf 20 = .ok (.aload_n 0, 1) := by decide +kernel
theorem d_Tn_faultOf_21 : decode b_Tn_faultOf 21 = .ok (.iconst 0, 1) := by decide +kernel
theorem d_Tn_faultOf_22 : decode b_Tn_faultOf 22 = .ok (.putfield 31, 3) := by decide +kernel
theorem d_Tn_faultOf_25 : decode b_Tn_faultOf 25 = .ok (.aload_n 0, 1) := by decide +kernel
theorem d_Tn_faultOf_26 : decode b_Tn_faultOf 26 = .ok (.invokevirtual 53, 3) := by decide +kernel
theorem d_Tn_faultOf_29 : decode b_Tn_faultOf 29 = .ok (.istore_n 3, 1) := by decide +kernel
theorem d_Tn_faultOf_30 : decode b_Tn_faultOf 30 = .ok (.iconst 1, 1) := by decide +kernel
theorem d_Tn_faultOf_31 : decode b_Tn_faultOf 31 = .ok (.istore 4, 2) := by decide +kernel
theorem d_Tn_faultOf_33 : decode b_Tn_faultOf 33 = .ok (.iload 4, 2) := by decide +kernel
theorem d_Tn_faultOf_35 : decode b_Tn_faultOf 35 = .ok (.bipush 10, 2) := by decide +kernel
theorem d_Tn_faultOf_37 : decode b_Tn_faultOf 37 = .ok (.if_icmp .ge 43, 3) := by decide +kernel
theorem d_Tn_faultOf_40 : decode b_Tn_faultOf 40 = .ok (.iload_n 3, 1) := by decide +kernel
theorem d_Tn_faultOf_41 : decode b_Tn_faultOf 41 = .ok (.ifCond .eq 39, 3) := by decide +kernel
theorem d_Tn_faultOf_44 : decode b_Tn_faultOf 44 = .ok (.aload_n 0, 1) := by decide +kernel
theorem d_Tn_faultOf_45 : decode b_Tn_faultOf 45 = .ok (.getfield 50, 3) := by decide +kernel
theorem d_Tn_faultOf_48 : decode b_Tn_faultOf 48 = .ok (.iload_n 2, 1) := by decide +kernel
theorem d_Tn_faultOf_49 : decode b_Tn_faultOf 49 = .ok (.if_icmp .ge 31, 3) := by decide +kernel
theorem d_Tn_faultOf_52 : decode b_Tn_faultOf 52 = .ok (.aload_n 0, 1) := by decide +kernel
theorem d_Tn_faultOf_53 : decode b_Tn_faultOf 53 = .ok (.bipush 59, 2) := by decide +kernel
theorem d_Tn_faultOf_55 : decode b_Tn_faultOf 55 = .ok (.invokevirtual 57, 3) := by decide +kernel
theorem d_Tn_faultOf_58 : decode b_Tn_faultOf 58 = .ok (.ifCond .eq 14, 3) := by decide +kernel
theorem d_Tn_faultOf_61 : decode b_Tn_faultOf 61 = .ok (.aload_n 0, 1) := by decide +kernel
theorem d_Tn_faultOf_62 : decode b_Tn_faultOf 62 = .ok (.invokevirtual 53, 3) := by decide +kernel
theorem d_Tn_faultOf_65 : decode b_Tn_faultOf 65 = .ok (.ifCond .eq 7, 3) := by decide +kernel
theorem d_Tn_faultOf_68 : decode b_Tn_faultOf 68 = .ok (.iconst 1, 1) := by decide +kernel
theorem d_Tn_faultOf_69 : decode b_Tn_faultOf 69 = .ok (.goto 4, 3) := by decide +kernel
theorem d_Tn_faultOf_72 : decode b_Tn_faultOf 72 = .ok (.iconst 0, 1) := by decide +kernel
theorem d_Tn_faultOf_73 : decode b_Tn_faultOf 73 = .ok (.istore_n 3, 1) := by decide +kernel
theorem d_Tn_faultOf_74 : decode b_Tn_faultOf 74 = .ok (.iinc 4 1, 3) := by decide +kernel
theorem d_Tn_faultOf_77 : decode b_Tn_faultOf 77 = .ok (.goto (-44), 3) := by decide +kernel
theorem d_Tn_faultOf_80 : decode b_Tn_faultOf 80 = .ok (.iload_n 3, 1) := by decide +kernel
theorem d_Tn_faultOf_81 : decode b_Tn_faultOf 81 = .ok (.ifCond .eq 11, 3) := by decide +kernel
theorem d_Tn_faultOf_84 : decode b_Tn_faultOf 84 = .ok (.aload_n 0, 1) := by decide +kernel
theorem d_Tn_faultOf_85 : decode b_Tn_faultOf 85 = .ok (.getfield 50, 3) := by decide +kernel
theorem d_Tn_faultOf_88 : decode b_Tn_faultOf 88 = .ok (.iload_n 2, 1) := by decide +kernel
theorem d_Tn_faultOf_89 : decode b_Tn_faultOf 89 = .ok (.if_icmp .ge 8, 3) := by decide +kernel
theorem d_Tn_faultOf_92 : decode b_Tn_faultOf 92 = .ok (.aload_n 0, 1) := by decide +kernel
theorem d_Tn_faultOf_93 : decode b_Tn_faultOf 93 = .ok (.getfield 50, 3) := by decide +kernel
theorem d_Tn_faultOf_96 : decode b_Tn_faultOf 96 = .ok (.ireturn, 1) := by decide +kernel
theorem d_Tn_faultOf_97 : decode b_Tn_faultOf 97 = .ok (.aload_n 0, 1) := by decide +kernel
theorem d_Tn_faultOf_98 : decode b_Tn_faultOf 98 = .ok (.invokevirtual 61, 3) := by decide +kernel
theorem d_Tn_faultOf_101 : decode b_Tn_faultOf 101 = .ok (.aload_n 0, 1) := by decide +kernel
theorem d_Tn_faultOf_102 : decode b_Tn_faultOf 102 = .ok (.invokevirtual 64, 3) := by decide +kernel
theorem d_Tn_faultOf_105 : decode b_Tn_faultOf 105 = .ok (.iconst (-1), 1) := by decide +kernel
theorem d_Tn_faultOf_106 : decode b_Tn_faultOf 106 = .ok (.ireturn, 1) := by decide +kernel
set_option maxRecDepth 20000 in
theorem c_Tn_faultOf_b92 {r : Int32} {wz : gW} (C : gC p s m args meth c "RidCoppers$Town" b_Tn_faultOf 5 (some .int) D cA oc B) (a0 : Nat) (w : gW) {ls : Array Slot} {H : Heap} {locs : List Loc} (hl : lv_has ls 5 [(0, .ref (B + a0))]) (hf : f_Tn_faultOf_b92 N a0 w = some (r, wz)) (hR : gRep D cA B w H) (hS : va_S (gA B) s.heap H locs) : W p l e ({ frames := 49, cells := 0, slots := 0, locals := 1022 } : Room) s m args below meth c H locs 0 0 (MQ below (gQi D cA B r wz) args s 0 0 (gA B)) (F0 m 92 ls []) := by
  obtain ⟨hx, hb, hml, hown, hts, hr, hlocks, hK, hBs⟩ := id C
  unfold f_Tn_faultOf_b92 at hf
  refine lv_aload_n hx hb d_Tn_faultOf_92 rfl (lv_at hl 0 rfl) ?_
  have ⟨h15, hf⟩ := gd_e hf
  refine g_getI hx hb hts hown hK hR fl_Tn_50 (fun _ => rfl) h15 d_Tn_faultOf_93 ?_
  refine g_nI hf (fun x16 hf => ?_)
  exact g_iret hx hb hr hlocks hR hS hf rfl d_Tn_faultOf_96
set_option maxRecDepth 20000 in
theorem c_Tn_faultOf_b80 {r : Int32} {wz : gW} (C : gC p s m args meth c "RidCoppers$Town" b_Tn_faultOf 5 (some .int) D cA oc B) (a0 : Nat) (a2 : Int32) (a3 : Int32) (w : gW) {ls : Array Slot} {H : Heap} {locs : List Loc} (hl : lv_has ls 5 [(0, .ref (B + a0)), (2, .int a2), (3, .int a3)]) (hf : f_Tn_faultOf_b80 N a0 a2 a3 w = some (r, wz)) (hR : gRep D cA B w H) (hS : va_S (gA B) s.heap H locs) : W p l e ({ frames := 49, cells := 0, slots := 0, locals := 1022 } : Room) s m args below meth c H locs 0 0 (MQ below (gQi D cA B r wz) args s 0 0 (gA B)) (F0 m 80 ls []) := by
  obtain ⟨hx, hb, hml, hown, hts, hr, hlocks, hK, hBs⟩ := id C
  unfold f_Tn_faultOf_b80 at hf
  refine lv_iload_n hx hb d_Tn_faultOf_80 rfl (lv_at hl 2 rfl) ?_
  refine lv_if_eq (tgt := 92) hx hb d_Tn_faultOf_81 (by decide) (fun hc => ?_) (fun hc => ?_)
  · have hf := cd_t hc hf
    exact c_Tn_faultOf_b92 C a0 w (lv_sub hl [0] rfl) hf hR hS
  have hf := cd_f hc hf
  refine lv_aload_n hx hb d_Tn_faultOf_84 rfl (lv_at hl 0 rfl) ?_
  have ⟨h17, hf⟩ := gd_e hf
  refine g_getI hx hb hts hown hK hR fl_Tn_50 (fun _ => rfl) h17 d_Tn_faultOf_85 ?_
  refine g_nI hf (fun x18 hf => ?_)
  refine lv_iload_n hx hb d_Tn_faultOf_88 rfl (lv_at hl 1 rfl) ?_
  refine lv_icmp_ge (tgt := 97) hx hb d_Tn_faultOf_89 (by decide) (fun hc => ?_) (fun hc => ?_)
  · have hf := cd_t hc hf
    refine lv_aload_n hx hb d_Tn_faultOf_97 rfl (lv_at hl 0 rfl) ?_
    have ⟨x19, w20, h21, hf⟩ := kl_e hf
    refine g_kv0 (g_rV (As := []) (rest := []) hx hb hml hown hts hK hR hS (c_Tn_findMost l D cA oc B N a0 w h21) I_Tn_findMost m_598 mp_17 (gRecv hK hR (ci := 7) rfl h17) rfl rfl (Nat.le_of_ble_eq_true rfl) hl.1 ⟨Nat.le_of_ble_eq_true rfl, Nat.le_of_ble_eq_true rfl⟩ ⟨Nat.le_of_ble_eq_true rfl, Nat.le_of_ble_eq_true rfl⟩ d_Tn_faultOf_98) hS (fun H locs hR hS => ?_)
    refine lv_aload_n hx hb d_Tn_faultOf_101 rfl (lv_at hl 0 rfl) ?_
    have ⟨h25, hf⟩ := gd_e hf
    have ⟨x22, w23, h24, hf⟩ := kl_e hf
    refine g_kv0 (g_rV (As := []) (rest := []) hx hb hml hown hts hK hR hS (c_Tn_findHefts l D cA oc B N a0 w20 h24) I_Tn_findHefts m_603 mp_18 (gRecv hK hR (ci := 7) rfl h25) rfl rfl (Nat.le_of_ble_eq_true rfl) hl.1 ⟨Nat.le_of_ble_eq_true rfl, Nat.le_of_ble_eq_true rfl⟩ ⟨Nat.le_of_ble_eq_true rfl, Nat.le_of_ble_eq_true rfl⟩ d_Tn_faultOf_102) hS (fun H locs hR hS => ?_)
    refine lv_iconst (v := (-1)) hx hb d_Tn_faultOf_105 (by decide) ?_
    exact g_iret hx hb hr hlocks hR hS hf rfl d_Tn_faultOf_106
  have hf := cd_f hc hf
  exact c_Tn_faultOf_b92 C a0 w (lv_sub hl [0] rfl) hf hR hS
set_option maxRecDepth 20000 in
theorem c_Tn_faultOf_b33 {r : Int32} {wz : gW} {rec33 : Nat × Int32 × Int32 × Int32 × gW → Option (Int32 × gW)} (ih33 : ∀ (a0 : Nat) (a2 : Int32) (a3 : Int32) (a4 : Int32) (w : gW) (ls : Array Slot) (H : Heap) (locs : List Loc), rec33 (a0, a2, a3, a4, w) = some (r, wz) → lv_has ls 5 [(0, .ref (B + a0)), (2, .int a2), (3, .int a3), (4, .int a4)] → gRep D cA B w H → va_S (gA B) s.heap H locs → W p l e ({ frames := 49, cells := 0, slots := 0, locals := 1022 } : Room) s m args below meth c H locs 0 0 (MQ below (gQi D cA B r wz) args s 0 0 (gA B)) (F0 m 33 ls [])) (C : gC p s m args meth c "RidCoppers$Town" b_Tn_faultOf 5 (some .int) D cA oc B) (a0 : Nat) (a2 : Int32) (a3 : Int32) (a4 : Int32) (w : gW) {ls : Array Slot} {H : Heap} {locs : List Loc} (hl : lv_has ls 5 [(0, .ref (B + a0)), (2, .int a2), (3, .int a3), (4, .int a4)]) (hf : f_Tn_faultOf_b33 N rec33 a0 a2 a3 a4 w = some (r, wz)) (hR : gRep D cA B w H) (hS : va_S (gA B) s.heap H locs) : W p l e ({ frames := 49, cells := 0, slots := 0, locals := 1022 } : Room) s m args below meth c H locs 0 0 (MQ below (gQi D cA B r wz) args s 0 0 (gA B)) (F0 m 33 ls []) := by
  obtain ⟨hx, hb, hml, hown, hts, hr, hlocks, hK, hBs⟩ := id C
  unfold f_Tn_faultOf_b33 at hf
  refine lv_iload hx hb d_Tn_faultOf_33 (lv_at hl 3 rfl) ?_
  refine lv_bipush (v := 10) hx hb d_Tn_faultOf_35 (by decide) ?_
  refine lv_icmp_ge (tgt := 80) hx hb d_Tn_faultOf_37 (by decide) (fun hc => ?_) (fun hc => ?_)
  · have hf := cd_t hc hf
    exact c_Tn_faultOf_b80 C a0 a2 a3 w (lv_sub hl [0, 1, 2] rfl) hf hR hS
  have hf := cd_f hc hf
  refine lv_iload_n hx hb d_Tn_faultOf_40 rfl (lv_at hl 2 rfl) ?_
  refine lv_if_eq (tgt := 80) hx hb d_Tn_faultOf_41 (by decide) (fun hc => ?_) (fun hc => ?_)
  · have hf := cd_t hc hf
    exact c_Tn_faultOf_b80 C a0 a2 a3 w (lv_sub hl [0, 1, 2] rfl) hf hR hS
  have hf := cd_f hc hf
  refine lv_aload_n hx hb d_Tn_faultOf_44 rfl (lv_at hl 0 rfl) ?_
  have ⟨h26, hf⟩ := gd_e hf
  refine g_getI hx hb hts hown hK hR fl_Tn_50 (fun _ => rfl) h26 d_Tn_faultOf_45 ?_
  refine g_nI hf (fun x27 hf => ?_)
  refine lv_iload_n hx hb d_Tn_faultOf_48 rfl (lv_at hl 1 rfl) ?_
  refine lv_icmp_ge (tgt := 80) hx hb d_Tn_faultOf_49 (by decide) (fun hc => ?_) (fun hc => ?_)
  · have hf := cd_t hc hf
    exact c_Tn_faultOf_b80 C a0 a2 a3 w (lv_sub hl [0, 1, 2] rfl) hf hR hS
  have hf := cd_f hc hf
  refine lv_aload_n hx hb d_Tn_faultOf_52 rfl (lv_at hl 0 rfl) ?_
  refine lv_bipush (v := 59) hx hb d_Tn_faultOf_53 (by decide) ?_
  have ⟨x28, w29, h30, hf⟩ := kl_e hf
  refine g_ki0 (g_rV (As := [.int 59]) (rest := []) hx hb hml hown hts hK hR hS (c_Tn_takes l D cA oc B N a0 59 w h30) I_Tn_takes m_501 mp_8 (gRecv hK hR (ci := 7) rfl h26) rfl rfl (Nat.le_of_ble_eq_true rfl) hl.1 ⟨Nat.le_of_ble_eq_true rfl, Nat.le_of_ble_eq_true rfl⟩ ⟨Nat.le_of_ble_eq_true rfl, Nat.le_of_ble_eq_true rfl⟩ d_Tn_faultOf_55) hS (fun H locs hR hS => ?_)
  refine lv_if_eq (tgt := 72) hx hb d_Tn_faultOf_58 (by decide) (fun hc => ?_) (fun hc => ?_)
  · have hf := cd_t hc hf
    refine lv_iconst (v := 0) hx hb d_Tn_faultOf_72 (by decide) ?_
    refine lv_istore_n (lv' := [(3, .int 0), (0, .ref (B + a0)), (2, .int a2), (4, .int a4)]) hx hb d_Tn_faultOf_73 rfl hl (by decide) rfl (fun ls hl => ?_)
    refine g_iinc (lv' := fun x31 => [(4, .int x31), (3, .int 0), (0, .ref (B + a0)), (2, .int a2)]) hf hx hb d_Tn_faultOf_74 hl (k := 3) rfl (by decide) (by decide) (fun _ => rfl) (fun x31 ls hf hl => ?_)
    refine lv_goto (tgt := 33) hx hb d_Tn_faultOf_77 (by decide) ?_
    exact ih33 a0 a2 0 x31 w29 _ _ _ hf (lv_sub hl [2, 3, 1, 0] rfl) hR hS
  have hf := cd_f hc hf
  refine lv_aload_n hx hb d_Tn_faultOf_61 rfl (lv_at hl 0 rfl) ?_
  have ⟨h35, hf⟩ := gd_e hf
  have ⟨x32, w33, h34, hf⟩ := kl_e hf
  refine g_ki0 (g_rV (As := []) (rest := []) hx hb hml hown hts hK hR hS (c_Tn_clause l D cA oc B N a0 w29 h34) I_Tn_clause m_438 mp_5 (gRecv hK hR (ci := 7) rfl h35) rfl rfl (Nat.le_of_ble_eq_true rfl) hl.1 ⟨Nat.le_of_ble_eq_true rfl, Nat.le_of_ble_eq_true rfl⟩ ⟨Nat.le_of_ble_eq_true rfl, Nat.le_of_ble_eq_true rfl⟩ d_Tn_faultOf_62) hS (fun H locs hR hS => ?_)
  refine lv_if_eq (tgt := 72) hx hb d_Tn_faultOf_65 (by decide) (fun hc => ?_) (fun hc => ?_)
  · have hf := cd_t hc hf
    refine lv_iconst (v := 0) hx hb d_Tn_faultOf_72 (by decide) ?_
    refine lv_istore_n (lv' := [(3, .int 0), (0, .ref (B + a0)), (2, .int a2), (4, .int a4)]) hx hb d_Tn_faultOf_73 rfl hl (by decide) rfl (fun ls hl => ?_)
    refine g_iinc (lv' := fun x36 => [(4, .int x36), (3, .int 0), (0, .ref (B + a0)), (2, .int a2)]) hf hx hb d_Tn_faultOf_74 hl (k := 3) rfl (by decide) (by decide) (fun _ => rfl) (fun x36 ls hf hl => ?_)
    refine lv_goto (tgt := 33) hx hb d_Tn_faultOf_77 (by decide) ?_
    exact ih33 a0 a2 0 x36 w33 _ _ _ hf (lv_sub hl [2, 3, 1, 0] rfl) hR hS
  have hf := cd_f hc hf
  refine lv_iconst (v := 1) hx hb d_Tn_faultOf_68 (by decide) ?_
  refine lv_goto (tgt := 73) hx hb d_Tn_faultOf_69 (by decide) ?_
  refine lv_istore_n (lv' := [(3, .int 1), (0, .ref (B + a0)), (2, .int a2), (4, .int a4)]) hx hb d_Tn_faultOf_73 rfl hl (by decide) rfl (fun ls hl => ?_)
  refine g_iinc (lv' := fun x37 => [(4, .int x37), (3, .int 1), (0, .ref (B + a0)), (2, .int a2)]) hf hx hb d_Tn_faultOf_74 hl (k := 3) rfl (by decide) (by decide) (fun _ => rfl) (fun x37 ls hf hl => ?_)
  refine lv_goto (tgt := 33) hx hb d_Tn_faultOf_77 (by decide) ?_
  exact ih33 a0 a2 1 x37 w33 _ _ _ hf (lv_sub hl [2, 3, 1, 0] rfl) hR hS
theorem c_Tn_faultOf_l33 {r : Int32} {wz : gW} (C : gC p s m args meth c "RidCoppers$Town" b_Tn_faultOf 5 (some .int) D cA oc B) (a0 : Nat) (a2 : Int32) (a3 : Int32) (a4 : Int32) (w : gW) {ls : Array Slot} {H : Heap} {locs : List Loc} (hl : lv_has ls 5 [(0, .ref (B + a0)), (2, .int a2), (3, .int a3), (4, .int a4)]) (hf : f_Tn_faultOf_l33 N a0 a2 a3 a4 w = some (r, wz)) (hR : gRep D cA B w H) (hS : va_S (gA B) s.heap H locs) : W p l e ({ frames := 49, cells := 0, slots := 0, locals := 1022 } : Room) s m args below meth c H locs 0 0 (MQ below (gQi D cA B r wz) args s 0 0 (gA B)) (F0 m 33 ls []) := by
  unfold f_Tn_faultOf_l33 at hf
  suffices hh : ∀ n : Nat, ∀ (a0 : Nat) (a2 : Int32) (a3 : Int32) (a4 : Int32) (w : gW) (ls : Array Slot) (H : Heap) (locs : List Loc), itr (fun rec (q : Nat × Int32 × Int32 × Int32 × gW) => f_Tn_faultOf_b33 N rec q.1 q.2.1 q.2.2.1 q.2.2.2.1 q.2.2.2.2) n (a0, a2, a3, a4, w) = some (r, wz) → lv_has ls 5 [(0, .ref (B + a0)), (2, .int a2), (3, .int a3), (4, .int a4)] → gRep D cA B w H → va_S (gA B) s.heap H locs → W p l e ({ frames := 49, cells := 0, slots := 0, locals := 1022 } : Room) s m args below meth c H locs 0 0 (MQ below (gQi D cA B r wz) args s 0 0 (gA B)) (F0 m 33 ls []) from hh N a0 a2 a3 a4 w ls H locs hf hl hR hS
  intro n
  induction n with
  | zero => intro a0 a2 a3 a4 w ls H locs hf; cases hf
  | succ n ihn =>
    intro a0 a2 a3 a4 w ls H locs hf hl hR hS
    exact c_Tn_faultOf_b33 (N := N) ihn C a0 a2 a3 a4 w hl ((itr_s _ _ _).symm.trans hf) hR hS
set_option maxRecDepth 20000 in
theorem c_Tn_faultOf_b0 {r : Int32} {wz : gW} (C : gC p s m args meth c "RidCoppers$Town" b_Tn_faultOf 5 (some .int) D cA oc B) (a0 : Nat) (a1 : Nat) (a2 : Int32) (w : gW) {ls : Array Slot} {H : Heap} {locs : List Loc} (hl : lv_has ls 5 [(0, .ref (B + a0)), (1, .ref (B + a1)), (2, .int a2)]) (hf : f_Tn_faultOf_b0 N a0 a1 a2 w = some (r, wz)) (hR : gRep D cA B w H) (hS : va_S (gA B) s.heap H locs) : W p l e ({ frames := 49, cells := 0, slots := 0, locals := 1022 } : Room) s m args below meth c H locs 0 0 (MQ below (gQi D cA B r wz) args s 0 0 (gA B)) (F0 m 0 ls []) := by
  obtain ⟨hx, hb, hml, hown, hts, hr, hlocks, hK, hBs⟩ := id C
  unfold f_Tn_faultOf_b0 at hf
  refine lv_aload_n hx hb d_Tn_faultOf_0 rfl (lv_at hl 0 rfl) ?_
  refine lv_aload_n hx hb d_Tn_faultOf_1 rfl (lv_at hl 1 rfl) ?_
  have ⟨h1, hf⟩ := gd_e hf
  refine g_putR hx hb hts hown hK hR hS pf_Tn_43 (fun _ => rfl) (fun _ => rfl) (fun _ => rfl) h1 d_Tn_faultOf_2 (fun H locs hR hS => ?_)
  refine g_nW hf hR (fun w2 hf hR => ?_)
  refine lv_aload_n hx hb d_Tn_faultOf_5 rfl (lv_at hl 0 rfl) ?_
  refine lv_iload_n hx hb d_Tn_faultOf_6 rfl (lv_at hl 2 rfl) ?_
  have ⟨h3, hf⟩ := gd_e hf
  refine g_putI hx hb hts hown hK hR hS pf_Tn_47 (fun _ => rfl) rfl rfl h3 d_Tn_faultOf_7 (fun H locs hR hS => ?_)
  refine g_nW hf hR (fun w4 hf hR => ?_)
  refine lv_aload_n hx hb d_Tn_faultOf_10 rfl (lv_at hl 0 rfl) ?_
  refine lv_iconst (v := 0) hx hb d_Tn_faultOf_11 (by decide) ?_
  have ⟨h5, hf⟩ := gd_e hf
  refine g_putI hx hb hts hown hK hR hS pf_Tn_50 (fun _ => rfl) rfl rfl h5 d_Tn_faultOf_12 (fun H locs hR hS => ?_)
  refine g_nW hf hR (fun w6 hf hR => ?_)
  refine lv_aload_n hx hb d_Tn_faultOf_15 rfl (lv_at hl 0 rfl) ?_
  refine lv_iconst (v := 0) hx hb d_Tn_faultOf_16 (by decide) ?_
  have ⟨h7, hf⟩ := gd_e hf
  refine g_putI hx hb hts hown hK hR hS pf_Tn_37 (fun _ => rfl) rfl rfl h7 d_Tn_faultOf_17 (fun H locs hR hS => ?_)
  refine g_nW hf hR (fun w8 hf hR => ?_)
  refine lv_aload_n hx hb d_Tn_faultOf_20 rfl (lv_at hl 0 rfl) ?_
  refine lv_iconst (v := 0) hx hb d_Tn_faultOf_21 (by decide) ?_
  have ⟨h9, hf⟩ := gd_e hf
  refine g_putI hx hb hts hown hK hR hS pf_Tn_31 (fun _ => rfl) rfl rfl h9 d_Tn_faultOf_22 (fun H locs hR hS => ?_)
  refine g_nW hf hR (fun w10 hf hR => ?_)
  refine lv_aload_n hx hb d_Tn_faultOf_25 rfl (lv_at hl 0 rfl) ?_
  have ⟨h14, hf⟩ := gd_e hf
  have ⟨x11, w12, h13, hf⟩ := kl_e hf
  refine g_ki0 (g_rV (As := []) (rest := []) hx hb hml hown hts hK hR hS (c_Tn_clause l D cA oc B N a0 w10 h13) I_Tn_clause m_438 mp_5 (gRecv hK hR (ci := 7) rfl h14) rfl rfl (Nat.le_of_ble_eq_true rfl) hl.1 ⟨Nat.le_of_ble_eq_true rfl, Nat.le_of_ble_eq_true rfl⟩ ⟨Nat.le_of_ble_eq_true rfl, Nat.le_of_ble_eq_true rfl⟩ d_Tn_faultOf_26) hS (fun H locs hR hS => ?_)
  refine lv_istore_n (lv' := [(3, .int x11), (0, .ref (B + a0)), (1, .ref (B + a1)), (2, .int a2)]) hx hb d_Tn_faultOf_29 rfl hl (by decide) rfl (fun ls hl => ?_)
  refine lv_iconst (v := 1) hx hb d_Tn_faultOf_30 (by decide) ?_
  refine lv_istore (lv' := [(4, .int 1), (3, .int x11), (0, .ref (B + a0)), (1, .ref (B + a1)), (2, .int a2)]) hx hb d_Tn_faultOf_31 hl (by decide) rfl (fun ls hl => ?_)
  exact c_Tn_faultOf_l33 C a0 a2 x11 1 w12 (lv_sub hl [2, 4, 1, 0] rfl) hf hR hS
theorem c_Tn_faultOf (l : Launch) (D : va_G) (cA : Nat → ClassId) (oc : gO) (B N : Nat) (a0 : Nat) (a1 : Nat) (a2 : Int32) (w : gW) {wz : gW} {r : Int32} (hf : f_Tn_faultOf N a0 a1 a2 w = some (r, wz)) : Met l y_Tn_faultOf (Cond.code y_Tn_faultOf b_Tn_faultOf 5 (some .int) :: lw_good) ({ frames := 49, cells := 0, slots := 0, locals := 1022 } : Room) (gPre D cA oc B [.ref (B + a0), .ref (B + a1), .int a2] w) (gQi D cA B r wz) 0 0 (gA B) := by
  refine Met.ofW (cc := b_Tn_faultOf) (maxL := 5) (ret := (some .int)) (by decide +kernel) rfl ?_
  intro p e s m args below meth c s₁ Bd hml hv
  obtain ⟨hargs, C, hR⟩ := gC.enter (l := l) rfl Bd hml hv
  subst hargs
  have hl := lv_entry ([.ref (B + a0), .ref (B + a1), .int a2]) (n := 5) (Nat.le_of_ble_eq_true rfl)
  rw [lg_entry_eq]
  generalize (lg_sl ([.ref (B + a0), .ref (B + a1), .int a2]) ++ List.replicate (5 - (lg_sl ([.ref (B + a0), .ref (B + a1), .int a2])).length) Slot.unset).toArray = ls at hl ⊢
  have hl : lv_has ls 5 [(0, .ref (B + a0)), (1, .ref (B + a1)), (2, .int a2)] := hl
  exact c_Tn_faultOf_b0 C a0 a1 a2 w (lv_sub hl [0, 1, 2] rfl) hf hR va_S.rf
