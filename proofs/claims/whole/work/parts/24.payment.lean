variable {p : Program} {l : Launch} {e : Env} {s : State} {m : MethodId} {args : Array Value} {below : List Frame} {meth : Method} {c : Code} {D : va_G} {cA : Nat → ClassId} {oc : gO} {B N : Nat}
theorem d_Pm_init_0 : decode b_Pm_init 0 = .ok (.aload_n 0, 1) := by decide +kernel
theorem d_Pm_init_1 : decode b_Pm_init 1 = .ok (.invokespecial 3, 3) := by decide +kernel
theorem d_Pm_init_4 : decode b_Pm_init 4 = .ok (.aload_n 0, 1) := by decide +kernel
theorem d_Pm_init_5 : decode b_Pm_init 5 = .ok (.bipush 6, 2) := by decide +kernel
theorem d_Pm_init_7 : decode b_Pm_init 7 = .ok (.newarray .int, 2) := by decide +kernel
theorem d_Pm_init_9 : decode b_Pm_init 9 = .ok (.putfield 9, 3) := by decide +kernel
theorem d_Pm_init_12 : decode b_Pm_init 12 = .ok (.aload_n 0, 1) := by decide +kernel
theorem d_Pm_init_13 : decode b_Pm_init 13 = .ok (.bipush 6, 2) := by decide +kernel
theorem d_Pm_init_15 : decode b_Pm_init 15 = .ok (.newarray .int, 2) := by decide +kernel
theorem d_Pm_init_17 : decode b_Pm_init 17 = .ok (.putfield 15, 3) := by decide +kernel
theorem d_Pm_init_20 : decode b_Pm_init 20 = .ok (.aload_n 0, 1) := by decide +kernel
theorem d_Pm_init_21 : decode b_Pm_init 21 = .ok (.bipush 6, 2) := by decide +kernel
theorem d_Pm_init_23 : decode b_Pm_init 23 = .ok (.newarray .int, 2) := by decide +kernel
theorem d_Pm_init_25 : decode b_Pm_init 25 = .ok (.putfield 18, 3) := by decide +kernel
theorem d_Pm_init_28 : decode b_Pm_init 28 = .ok (.aload_n 0, 1) := by decide +kernel
theorem d_Pm_init_29 : decode b_Pm_init 29 = .ok (.bipush 6, 2) := by decide +kernel
theorem d_Pm_init_31 : decode b_Pm_init 31 = .ok (.newarray .int, 2) := by decide +kernel
theorem d_Pm_init_33 : decode b_Pm_init 33 = .ok (.putfield 21, 3) := by decide +kernel
theorem d_Pm_init_36 : decode b_Pm_init 36 = .ok (.aload_n 0, 1) := by decide +kernel
theorem d_Pm_init_37 : decode b_Pm_init 37 = .ok (.bipush 6, 2) := by decide +kernel
theorem d_Pm_init_39 : decode b_Pm_init 39 = .ok (.newarray .int, 2) := by decide +kernel
theorem d_Pm_init_41 : decode b_Pm_init 41 = .ok (.putfield 24, 3) := by decide +kernel
theorem d_Pm_init_44 : decode b_Pm_init 44 = .ok (.aload_n 0, 1) := by decide +kernel
theorem d_Pm_init_45 : decode b_Pm_init 45 = .ok (.aconst_null, 1) := by decide +kernel
theorem d_Pm_init_46 : decode b_Pm_init 46 = .ok (.putfield 27, 3) := by decide +kernel
theorem d_Pm_init_49 : decode b_Pm_init 49 = .ok (.aload_n 0, 1) := by decide +kernel
theorem d_Pm_init_50 : decode b_Pm_init 50 = .ok (.aconst_null, 1) := by decide +kernel
theorem d_Pm_init_51 : decode b_Pm_init 51 = .ok (.putfield 31, 3) := by decide +kernel
theorem d_Pm_init_54 : decode b_Pm_init 54 = .ok (.aload_n 0, 1) := by decide +kernel
theorem d_Pm_init_55 : decode b_Pm_init 55 = .ok (.iconst 0, 1) := by decide +kernel
theorem d_Pm_init_56 : decode b_Pm_init 56 = .ok (.putfield 35, 3) := by decide +kernel
theorem d_Pm_init_59 : decode b_Pm_init 59 = .ok (.aload_n 0, 1) := by decide +kernel
theorem d_Pm_init_60 : decode b_Pm_init 60 = .ok (.iconst 0, 1) := by decide +kernel
theorem d_Pm_init_61 : decode b_Pm_init 61 = .ok (.putfield 39, 3) := by decide +kernel
theorem d_Pm_init_64 : decode b_Pm_init 64 = .ok (.aload_n 0, 1) := by decide +kernel
theorem d_Pm_init_65 : decode b_Pm_init 65 = .ok (.iconst 0, 1) := by decide +kernel
theorem d_Pm_init_66 : decode b_Pm_init 66 = .ok (.putfield 42, 3) := by decide +kernel
theorem d_Pm_init_69 : decode b_Pm_init 69 = .ok (.return_, 1) := by decide +kernel
set_option maxRecDepth 20000 in
theorem c_Pm_init_b0 {r : Unit} {wz : gW} (C : gC p s m args meth c "RidCoppers$Payment" b_Pm_init 1 none D cA oc B) (hin : meth.name = "<init>") (a0 : Nat) (w : gW) {ls : Array Slot} {H : Heap} {locs : List Loc} (hl : lv_has ls 1 [(0, .ref (B + a0))]) (hf : f_Pm_init_b0 N a0 w = some (r, wz)) (hR : gRep D cA B w H) (hS : va_S (gA B) s.heap H locs) : W p l e ({ frames := 1, cells := 5, slots := 30, locals := 60 } : Room) s m args below meth c H locs 0 0 (MQ below (gQv D cA B r wz) args s 5 30 (gA B)) (F0 m 0 ls []) := by
  obtain ⟨hx, hb, hml, hown, hts, hr, hlocks, hK, hBs⟩ := id C
  unfold f_Pm_init_b0 at hf
  refine lv_aload_n hx hb d_Pm_init_0 rfl (lv_at hl 0 rfl) ?_
  refine W.objInit hx hb hown (hts _ m_166) (hts _ m_28) (hts _ m_29) rfl (by rw [hml]; exact hl.1) rfl d_Pm_init_1 (Nat.le_of_ble_eq_true rfl) (Nat.le_of_ble_eq_true rfl) ?_
  refine W.eq (g2 := F0 m 4 ls []) rfl ?_
  refine lv_aload_n hx hb d_Pm_init_4 rfl (lv_at hl 0 rfl) ?_
  refine lv_bipush (v := 6) hx hb d_Pm_init_5 (by decide) ?_
  refine g_newa (kd := 50) (N := 6) hx hb hts hK hR hS (by decide) rfl m_81 (by decide) rfl (Nat.le_of_ble_eq_true rfl) (Nat.le_of_ble_eq_true rfl) (Nat.le_of_ble_eq_true rfl) d_Pm_init_7 (fun H hR hS => ?_)
  refine g_nA hf (fun p1 hf => ?_)
  refine g_nW hf hR (fun w2 hf hR => ?_)
  have ⟨h3, hf⟩ := gd_e hf
  refine g_putFR hx hb hts hown hK hR hS pf_Pm_9 hin (fun _ => rfl) (fun _ => rfl) (fun _ => rfl) h3 d_Pm_init_9 (fun H locs hR hS => ?_)
  refine g_nW hf hR (fun w4 hf hR => ?_)
  refine lv_aload_n hx hb d_Pm_init_12 rfl (lv_at hl 0 rfl) ?_
  refine lv_bipush (v := 6) hx hb d_Pm_init_13 (by decide) ?_
  refine g_newa (kd := 50) (N := 6) hx hb hts hK hR hS (by decide) rfl m_81 (by decide) rfl (Nat.le_of_ble_eq_true rfl) (Nat.le_of_ble_eq_true rfl) (Nat.le_of_ble_eq_true rfl) d_Pm_init_15 (fun H hR hS => ?_)
  refine g_nA hf (fun p5 hf => ?_)
  refine g_nW hf hR (fun w6 hf hR => ?_)
  have ⟨h7, hf⟩ := gd_e hf
  refine g_putFR hx hb hts hown hK hR hS pf_Pm_15 hin (fun _ => rfl) (fun _ => rfl) (fun _ => rfl) h7 d_Pm_init_17 (fun H locs hR hS => ?_)
  refine g_nW hf hR (fun w8 hf hR => ?_)
  refine lv_aload_n hx hb d_Pm_init_20 rfl (lv_at hl 0 rfl) ?_
  refine lv_bipush (v := 6) hx hb d_Pm_init_21 (by decide) ?_
  refine g_newa (kd := 50) (N := 6) hx hb hts hK hR hS (by decide) rfl m_81 (by decide) rfl (Nat.le_of_ble_eq_true rfl) (Nat.le_of_ble_eq_true rfl) (Nat.le_of_ble_eq_true rfl) d_Pm_init_23 (fun H hR hS => ?_)
  refine g_nA hf (fun p9 hf => ?_)
  refine g_nW hf hR (fun w10 hf hR => ?_)
  have ⟨h11, hf⟩ := gd_e hf
  refine g_putFR hx hb hts hown hK hR hS pf_Pm_18 hin (fun _ => rfl) (fun _ => rfl) (fun _ => rfl) h11 d_Pm_init_25 (fun H locs hR hS => ?_)
  refine g_nW hf hR (fun w12 hf hR => ?_)
  refine lv_aload_n hx hb d_Pm_init_28 rfl (lv_at hl 0 rfl) ?_
  refine lv_bipush (v := 6) hx hb d_Pm_init_29 (by decide) ?_
  refine g_newa (kd := 50) (N := 6) hx hb hts hK hR hS (by decide) rfl m_81 (by decide) rfl (Nat.le_of_ble_eq_true rfl) (Nat.le_of_ble_eq_true rfl) (Nat.le_of_ble_eq_true rfl) d_Pm_init_31 (fun H hR hS => ?_)
  refine g_nA hf (fun p13 hf => ?_)
  refine g_nW hf hR (fun w14 hf hR => ?_)
  have ⟨h15, hf⟩ := gd_e hf
  refine g_putFR hx hb hts hown hK hR hS pf_Pm_21 hin (fun _ => rfl) (fun _ => rfl) (fun _ => rfl) h15 d_Pm_init_33 (fun H locs hR hS => ?_)
  refine g_nW hf hR (fun w16 hf hR => ?_)
  refine lv_aload_n hx hb d_Pm_init_36 rfl (lv_at hl 0 rfl) ?_
  refine lv_bipush (v := 6) hx hb d_Pm_init_37 (by decide) ?_
  refine g_newa (kd := 50) (N := 6) hx hb hts hK hR hS (by decide) rfl m_81 (by decide) rfl (Nat.le_of_ble_eq_true rfl) (Nat.le_of_ble_eq_true rfl) (Nat.le_of_ble_eq_true rfl) d_Pm_init_39 (fun H hR hS => ?_)
  refine g_nA hf (fun p17 hf => ?_)
  refine g_nW hf hR (fun w18 hf hR => ?_)
  have ⟨h19, hf⟩ := gd_e hf
  refine g_putFR hx hb hts hown hK hR hS pf_Pm_24 hin (fun _ => rfl) (fun _ => rfl) (fun _ => rfl) h19 d_Pm_init_41 (fun H locs hR hS => ?_)
  refine g_nW hf hR (fun w20 hf hR => ?_)
  refine lv_aload_n hx hb d_Pm_init_44 rfl (lv_at hl 0 rfl) ?_
  refine lv_null hx hb d_Pm_init_45 ?_
  have ⟨h21, hf⟩ := gd_e hf
  refine g_putRN hx hb hts hown hK hR hS pf_Pm_27 (fun _ => rfl) rfl rfl h21 d_Pm_init_46 (fun H locs hR hS => ?_)
  refine g_nW hf hR (fun w22 hf hR => ?_)
  refine lv_aload_n hx hb d_Pm_init_49 rfl (lv_at hl 0 rfl) ?_
  refine lv_null hx hb d_Pm_init_50 ?_
  have ⟨h23, hf⟩ := gd_e hf
  refine g_putRN hx hb hts hown hK hR hS pf_Pm_31 (fun _ => rfl) rfl rfl h23 d_Pm_init_51 (fun H locs hR hS => ?_)
  refine g_nW hf hR (fun w24 hf hR => ?_)
  refine lv_aload_n hx hb d_Pm_init_54 rfl (lv_at hl 0 rfl) ?_
  refine lv_iconst (v := 0) hx hb d_Pm_init_55 (by decide) ?_
  have ⟨h25, hf⟩ := gd_e hf
  refine g_putI hx hb hts hown hK hR hS pf_Pm_35 (fun _ => rfl) rfl rfl h25 d_Pm_init_56 (fun H locs hR hS => ?_)
  refine g_nW hf hR (fun w26 hf hR => ?_)
  refine lv_aload_n hx hb d_Pm_init_59 rfl (lv_at hl 0 rfl) ?_
  refine lv_iconst (v := 0) hx hb d_Pm_init_60 (by decide) ?_
  have ⟨h27, hf⟩ := gd_e hf
  refine g_putI hx hb hts hown hK hR hS pf_Pm_39 (fun _ => rfl) rfl rfl h27 d_Pm_init_61 (fun H locs hR hS => ?_)
  refine g_nW hf hR (fun w28 hf hR => ?_)
  refine lv_aload_n hx hb d_Pm_init_64 rfl (lv_at hl 0 rfl) ?_
  refine lv_iconst (v := 0) hx hb d_Pm_init_65 (by decide) ?_
  have ⟨h29, hf⟩ := gd_e hf
  refine g_putI hx hb hts hown hK hR hS pf_Pm_42 (fun _ => rfl) rfl rfl h29 d_Pm_init_66 (fun H locs hR hS => ?_)
  refine g_nW hf hR (fun w30 hf hR => ?_)
  refine W.widen (k := 5) (n := 30) (Nat.le_of_ble_eq_true rfl) (Nat.le_of_ble_eq_true rfl) ?_
  exact g_vret hx hb hr hlocks hR hS hf d_Pm_init_69
theorem c_Pm_init (l : Launch) (D : va_G) (cA : Nat → ClassId) (oc : gO) (B N : Nat) (a0 : Nat) (w : gW) {wz : gW} {r : Unit} (hf : f_Pm_init N a0 w = some (r, wz)) : Met l y_Pm_init (Cond.code y_Pm_init b_Pm_init 1 none :: lw_good) ({ frames := 1, cells := 5, slots := 30, locals := 60 } : Room) (gPre D cA oc B [.ref (B + a0)] w) (gQv D cA B r wz) 5 30 (gA B) := by
  refine Met.ofW (cc := b_Pm_init) (maxL := 1) (ret := none) (by decide +kernel) rfl ?_
  intro p e s m args below meth c s₁ Bd hml hv
  obtain ⟨hargs, C, hR⟩ := gC.enter (l := l) rfl Bd hml hv
  have hin : meth.name = "<init>" := (name_of_methodNamed Bd.named Bd.method).1
  subst hargs
  have hl := lv_entry ([.ref (B + a0)]) (n := 1) (Nat.le_of_ble_eq_true rfl)
  rw [lg_entry_eq]
  generalize (lg_sl ([.ref (B + a0)]) ++ List.replicate (1 - (lg_sl ([.ref (B + a0)])).length) Slot.unset).toArray = ls at hl ⊢
  have hl : lv_has ls 1 [(0, .ref (B + a0))] := hl
  exact c_Pm_init_b0 C hin a0 w (lv_sub hl [0] rfl) hf hR va_S.rf
theorem d_Pm_advance_0 : decode b_Pm_advance 0 = .ok (.iconst 5, 1) := by decide +kernel
theorem d_Pm_advance_1 : decode b_Pm_advance 1 = .ok (.istore_n 1, 1) := by decide +kernel
theorem d_Pm_advance_2 : decode b_Pm_advance 2 = .ok (.iload_n 1, 1) := by decide +kernel
theorem d_Pm_advance_3 : decode b_Pm_advance 3 = .ok (.ifCond .lt 102, 3) := by decide +kernel
theorem d_Pm_advance_6 : decode b_Pm_advance 6 = .ok (.aload_n 0, 1) := by decide +kernel
theorem d_Pm_advance_7 : decode b_Pm_advance 7 = .ok (.getfield 15, 3) := by decide +kernel
theorem d_Pm_advance_10 : decode b_Pm_advance 10 = .ok (.iload_n 1, 1) := by decide +kernel
theorem d_Pm_advance_11 : decode b_Pm_advance 11 = .ok (.iaload, 1) := by decide +kernel
theorem d_Pm_advance_12 : decode b_Pm_advance 12 = .ok (.aload_n 0, 1) := by decide +kernel
theorem d_Pm_advance_13 : decode b_Pm_advance 13 = .ok (.getfield 9, 3) := by decide +kernel
theorem d_Pm_advance_16 : decode b_Pm_advance 16 = .ok (.iload_n 1, 1) := by decide +kernel
theorem d_Pm_advance_17 : decode b_Pm_advance 17 = .ok (.iaload, 1) := by decide +kernel
theorem d_Pm_advance_18 : decode b_Pm_advance 18 = .ok (.if_icmp .ge 38, 3) := by decide +kernel
theorem d_Pm_advance_21 : decode b_Pm_advance 21 = .ok (.aload_n 0, 1) := by decide +kernel
theorem d_Pm_advance_22 : decode b_Pm_advance 22 = .ok (.getfield 15, 3) := by decide +kernel
theorem d_Pm_advance_25 : decode b_Pm_advance 25 = .ok (.iload_n 1, 1) := by decide +kernel
theorem d_Pm_advance_26 : decode b_Pm_advance 26 = .ok (.dup2, 1) := by decide +kernel
theorem d_Pm_advance_27 : decode b_Pm_advance 27 = .ok (.iaload, 1) := by decide +kernel
theorem d_Pm_advance_28 : decode b_Pm_advance 28 = .ok (.iconst 1, 1) := by decide +kernel
theorem d_Pm_advance_29 : decode b_Pm_advance 29 = .ok (.iadd, 1) := by decide +kernel
theorem d_Pm_advance_30 : decode b_Pm_advance 30 = .ok (.iastore, 1) := by decide +kernel
theorem d_Pm_advance_31 : decode b_Pm_advance 31 = .ok (.aload_n 0, 1) := by decide +kernel
theorem d_Pm_advance_32 : decode b_Pm_advance 32 = .ok (.dup, 1) := by decide +kernel
theorem d_Pm_advance_33 : decode b_Pm_advance 33 = .ok (.getfield 39, 3) := by decide +kernel
theorem d_Pm_advance_36 : decode b_Pm_advance 36 = .ok (.getstatic 140, 3) := by decide +kernel
theorem d_Pm_advance_39 : decode b_Pm_advance 39 = .ok (.iload_n 1, 1) := by decide +kernel
theorem d_Pm_advance_40 : decode b_Pm_advance 40 = .ok (.iaload, 1) := by decide +kernel
theorem d_Pm_advance_41 : decode b_Pm_advance 41 = .ok (.iadd, 1) := by decide +kernel
theorem d_Pm_advance_42 : decode b_Pm_advance 42 = .ok (.putfield 39, 3) := by decide +kernel
theorem d_Pm_advance_45 : decode b_Pm_advance 45 = .ok (.aload_n 0, 1) := by decide +kernel
theorem d_Pm_advance_46 : decode b_Pm_advance 46 = .ok (.dup, 1) := by decide +kernel
theorem d_Pm_advance_47 : decode b_Pm_advance 47 = .ok (.getfield 42, 3) := by decide +kernel
theorem d_Pm_advance_50 : decode b_Pm_advance 50 = .ok (.iconst 1, 1) := by decide +kernel
theorem d_Pm_advance_51 : decode b_Pm_advance 51 = .ok (.iadd, 1) := by decide +kernel
theorem d_Pm_advance_52 : decode b_Pm_advance 52 = .ok (.putfield 42, 3) := by decide +kernel
theorem d_Pm_advance_55 : decode b_Pm_advance 55 = .ok (.return_, 1) := by decide +kernel
theorem d_Pm_advance_56 : decode b_Pm_advance 56 = .ok (.aload_n 0, 1) := by decide +kernel
theorem d_Pm_advance_57 : decode b_Pm_advance 57 = .ok (.dup, 1) := by decide +kernel
theorem d_Pm_advance_58 : decode b_Pm_advance 58 = .ok (.getfield 39, 3) := by decide +kernel
theorem d_Pm_advance_61 : decode b_Pm_advance 61 = .ok (.aload_n 0, 1) := by decide +kernel
theorem d_Pm_advance_62 : decode b_Pm_advance 62 = .ok (.getfield 15, 3) := by decide +kernel
theorem d_Pm_advance_65 : decode b_Pm_advance 65 = .ok (.iload_n 1, 1) := by decide +kernel
theorem d_Pm_advance_66 : decode b_Pm_advance 66 = .ok (.iaload, 1) := by decide +kernel
theorem d_Pm_advance_67 : decode b_Pm_advance 67 = .ok (.getstatic 140, 3) := by decide +kernel
theorem d_Pm_advance_70 : decode b_Pm_advance 70 = .ok (.iload_n 1, 1) := by decide +kernel
theorem d_Pm_advance_71 : decode b_Pm_advance 71 = .ok (.iaload, 1) := by decide +kernel
theorem d_Pm_advance_72 : decode b_Pm_advance 72 = .ok (.imul, 1) := by decide +kernel
theorem d_Pm_advance_73 : decode b_Pm_advance 73 = .ok (.isub, 1) := by decide +kernel
theorem d_Pm_advance_74 : decode b_Pm_advance 74 = .ok (.putfield 39, 3) := by decide +kernel
theorem d_Pm_advance_77 : decode b_Pm_advance 77 = .ok (.aload_n 0, 1) := by decide +kernel
theorem d_Pm_advance_78 : decode b_Pm_advance 78 = .ok (.dup, 1) := by decide +kernel
theorem d_Pm_advance_79 : decode b_Pm_advance 79 = .ok (.getfield 42, 3) := by decide +kernel
theorem d_Pm_advance_82 : decode b_Pm_advance 82 = .ok (.aload_n 0, 1) := by decide +kernel
theorem d_Pm_advance_83 : decode b_Pm_advance 83 = .ok (.getfield 15, 3) := by decide +kernel
theorem d_Pm_advance_86 : decode b_Pm_advance 86 = .ok (.iload_n 1, 1) := by decide +kernel
theorem d_Pm_advance_87 : decode b_Pm_advance 87 = .ok (.iaload, 1) := by decide +kernel
theorem d_Pm_advance_88 : decode b_Pm_advance 88 = .ok (.isub, 1) := by decide +kernel
theorem d_Pm_advance_89 : decode b_Pm_advance 89 = .ok (.putfield 42, 3) := by decide +kernel
theorem d_Pm_advance_92 : decode b_Pm_advance 92 = .ok (.aload_n 0, 1) := by decide +kernel
theorem d_Pm_advance_93 : decode b_Pm_advance 93 = .ok (.getfield 15, 3) := by decide +kernel
theorem d_Pm_advance_96 : decode b_Pm_advance 96 = .ok (.iload_n 1, 1) := by decide +kernel
theorem d_Pm_advance_97 : decode b_Pm_advance 97 = .ok (.iconst 0, 1) := by decide +kernel
theorem d_Pm_advance_98 : decode b_Pm_advance 98 = .ok (.iastore, 1) := by decide +kernel
theorem d_Pm_advance_99 : decode b_Pm_advance 99 = .ok (.iinc 1 (-1), 3) := by decide +kernel
theorem d_Pm_advance_102 : decode b_Pm_advance 102 = .ok (.goto (-100), 3) := by decide +kernel
theorem d_Pm_advance_105 : decode b_Pm_advance 105 = .ok (.return_, 1) := by decide +kernel
set_option maxRecDepth 20000 in
theorem c_Pm_advance_b2 {r : Unit} {wz : gW} {rec2 : Nat × Int32 × gW → Option (Unit × gW)} (ih2 : ∀ (a0 : Nat) (a1 : Int32) (w : gW) (ls : Array Slot) (H : Heap) (locs : List Loc), rec2 (a0, a1, w) = some (r, wz) → lv_has ls 2 [(0, .ref (B + a0)), (1, .int a1)] → gRep D cA B w H → va_S (gA B) s.heap H locs → W p l e ({ frames := 1, cells := 0, slots := 0, locals := 40 } : Room) s m args below meth c H locs 0 0 (MQ below (gQv D cA B r wz) args s 0 0 (gA B)) (F0 m 2 ls [])) (C : gC p s m args meth c "RidCoppers$Payment" b_Pm_advance 2 none D cA oc B) (a0 : Nat) (a1 : Int32) (w : gW) {ls : Array Slot} {H : Heap} {locs : List Loc} (hl : lv_has ls 2 [(0, .ref (B + a0)), (1, .int a1)]) (hf : f_Pm_advance_b2 N rec2 a0 a1 w = some (r, wz)) (hR : gRep D cA B w H) (hS : va_S (gA B) s.heap H locs) : W p l e ({ frames := 1, cells := 0, slots := 0, locals := 40 } : Room) s m args below meth c H locs 0 0 (MQ below (gQv D cA B r wz) args s 0 0 (gA B)) (F0 m 2 ls []) := by
  obtain ⟨hx, hb, hml, hown, hts, hr, hlocks, hK, hBs⟩ := id C
  unfold f_Pm_advance_b2 at hf
  refine lv_iload_n hx hb d_Pm_advance_2 rfl (lv_at hl 1 rfl) ?_
  refine lv_if_lt (tgt := 105) hx hb d_Pm_advance_3 (by decide) (fun hc => ?_) (fun hc => ?_)
  · have hf := cd_t hc hf
    exact g_vret hx hb hr hlocks hR hS hf d_Pm_advance_105
  have hf := cd_f hc hf
  refine lv_aload_n hx hb d_Pm_advance_6 rfl (lv_at hl 0 rfl) ?_
  have ⟨h1, hf⟩ := gd_e hf
  have ⟨x2, h3, hf⟩ := rr_e hf
  refine g_getR hx hb hts hown hK hR fl_Pm_15 (fun _ => rfl) h1 h3 d_Pm_advance_7 ?_
  refine lv_iload_n hx hb d_Pm_advance_10 rfl (lv_at hl 1 rfl) ?_
  have ⟨h4, hf⟩ := gd_e hf
  have ⟨h5, hf⟩ := gd_e hf
  refine g_iald hx hb hK hR h4 h5 d_Pm_advance_11 ?_
  refine g_nI hf (fun x6 hf => ?_)
  refine lv_aload_n hx hb d_Pm_advance_12 rfl (lv_at hl 0 rfl) ?_
  have ⟨x7, h8, hf⟩ := rr_e hf
  refine g_getR hx hb hts hown hK hR fl_Pm_9 (fun _ => rfl) h1 h8 d_Pm_advance_13 ?_
  refine lv_iload_n hx hb d_Pm_advance_16 rfl (lv_at hl 1 rfl) ?_
  have ⟨h9, hf⟩ := gd_e hf
  have ⟨h10, hf⟩ := gd_e hf
  refine g_iald hx hb hK hR h9 h10 d_Pm_advance_17 ?_
  refine g_nI hf (fun x11 hf => ?_)
  refine lv_icmp_ge (tgt := 56) hx hb d_Pm_advance_18 (by decide) (fun hc => ?_) (fun hc => ?_)
  · have hf := cd_t hc hf
    refine lv_aload_n hx hb d_Pm_advance_56 rfl (lv_at hl 0 rfl) ?_
    refine lv_dup hx hb d_Pm_advance_57 rfl ?_
    refine g_getI hx hb hts hown hK hR fl_Pm_39 (fun _ => rfl) h1 d_Pm_advance_58 ?_
    refine g_nI hf (fun x12 hf => ?_)
    refine lv_aload_n hx hb d_Pm_advance_61 rfl (lv_at hl 0 rfl) ?_
    refine g_getR hx hb hts hown hK hR fl_Pm_15 (fun _ => rfl) h1 h3 d_Pm_advance_62 ?_
    refine lv_iload_n hx hb d_Pm_advance_65 rfl (lv_at hl 1 rfl) ?_
    refine g_iald hx hb hK hR h4 h5 d_Pm_advance_66 ?_
    refine g_nI hf (fun x13 hf => ?_)
    refine g_worthN hx hb hown hK hS hK.2.2.2.1.2.1 d_Pm_advance_67 ?_
    refine lv_iload_n hx hb d_Pm_advance_70 rfl (lv_at hl 1 rfl) ?_
    have ⟨h14, hf⟩ := gd_e hf
    refine g_wld hx hb hK hS h14 d_Pm_advance_71 ?_
    refine g_nI hf (fun x15 hf => ?_)
    refine lv_imul hx hb d_Pm_advance_72 ?_
    refine g_nI hf (fun x16 hf => ?_)
    refine lv_isub hx hb d_Pm_advance_73 ?_
    refine g_nI hf (fun x17 hf => ?_)
    refine g_putI hx hb hts hown hK hR hS pf_Pm_39 (fun _ => rfl) rfl rfl h1 d_Pm_advance_74 (fun H locs hR hS => ?_)
    refine g_nW hf hR (fun w18 hf hR => ?_)
    refine lv_aload_n hx hb d_Pm_advance_77 rfl (lv_at hl 0 rfl) ?_
    refine lv_dup hx hb d_Pm_advance_78 rfl ?_
    have ⟨h19, hf⟩ := gd_e hf
    refine g_getI hx hb hts hown hK hR fl_Pm_42 (fun _ => rfl) h19 d_Pm_advance_79 ?_
    refine g_nI hf (fun x20 hf => ?_)
    refine lv_aload_n hx hb d_Pm_advance_82 rfl (lv_at hl 0 rfl) ?_
    have ⟨x21, h22, hf⟩ := rr_e hf
    refine g_getR hx hb hts hown hK hR fl_Pm_15 (fun _ => rfl) h19 h22 d_Pm_advance_83 ?_
    refine lv_iload_n hx hb d_Pm_advance_86 rfl (lv_at hl 1 rfl) ?_
    have ⟨h23, hf⟩ := gd_e hf
    have ⟨h24, hf⟩ := gd_e hf
    refine g_iald hx hb hK hR h23 h24 d_Pm_advance_87 ?_
    refine g_nI hf (fun x25 hf => ?_)
    refine lv_isub hx hb d_Pm_advance_88 ?_
    refine g_nI hf (fun x26 hf => ?_)
    refine g_putI hx hb hts hown hK hR hS pf_Pm_42 (fun _ => rfl) rfl rfl h19 d_Pm_advance_89 (fun H locs hR hS => ?_)
    refine g_nW hf hR (fun w27 hf hR => ?_)
    refine lv_aload_n hx hb d_Pm_advance_92 rfl (lv_at hl 0 rfl) ?_
    have ⟨h28, hf⟩ := gd_e hf
    have ⟨x29, h30, hf⟩ := rr_e hf
    refine g_getR hx hb hts hown hK hR fl_Pm_15 (fun _ => rfl) h28 h30 d_Pm_advance_93 ?_
    refine lv_iload_n hx hb d_Pm_advance_96 rfl (lv_at hl 1 rfl) ?_
    refine lv_iconst (v := 0) hx hb d_Pm_advance_97 (by decide) ?_
    have ⟨h31, hf⟩ := gd_e hf
    have ⟨h32, hf⟩ := gd_e hf
    refine g_iast hx hb hK hR hS h31 h32 d_Pm_advance_98 (fun H locs hR hS => ?_)
    refine g_nW hf hR (fun w33 hf hR => ?_)
    refine g_iinc (lv' := fun x34 => [(1, .int x34), (0, .ref (B + a0))]) hf hx hb d_Pm_advance_99 hl (k := 1) rfl (by decide) (by decide) (fun _ => rfl) (fun x34 ls hf hl => ?_)
    refine lv_goto (tgt := 2) hx hb d_Pm_advance_102 (by decide) ?_
    exact ih2 a0 x34 w33 _ _ _ hf (lv_sub hl [1, 0] rfl) hR hS
  have hf := cd_f hc hf
  refine lv_aload_n hx hb d_Pm_advance_21 rfl (lv_at hl 0 rfl) ?_
  refine g_getR hx hb hts hown hK hR fl_Pm_15 (fun _ => rfl) h1 h3 d_Pm_advance_22 ?_
  refine lv_iload_n hx hb d_Pm_advance_25 rfl (lv_at hl 1 rfl) ?_
  refine lv_dup2_11 hx hb d_Pm_advance_26 rfl rfl ?_
  refine g_iald hx hb hK hR h4 h5 d_Pm_advance_27 ?_
  refine g_nI hf (fun x35 hf => ?_)
  refine lv_iconst (v := 1) hx hb d_Pm_advance_28 (by decide) ?_
  refine lv_iadd hx hb d_Pm_advance_29 ?_
  refine g_nI hf (fun x36 hf => ?_)
  refine g_iast hx hb hK hR hS h4 h5 d_Pm_advance_30 (fun H locs hR hS => ?_)
  refine g_nW hf hR (fun w37 hf hR => ?_)
  refine lv_aload_n hx hb d_Pm_advance_31 rfl (lv_at hl 0 rfl) ?_
  refine lv_dup hx hb d_Pm_advance_32 rfl ?_
  have ⟨h38, hf⟩ := gd_e hf
  refine g_getI hx hb hts hown hK hR fl_Pm_39 (fun _ => rfl) h38 d_Pm_advance_33 ?_
  refine g_nI hf (fun x39 hf => ?_)
  refine g_worthN hx hb hown hK hS hK.2.2.2.1.2.1 d_Pm_advance_36 ?_
  refine lv_iload_n hx hb d_Pm_advance_39 rfl (lv_at hl 1 rfl) ?_
  have ⟨h40, hf⟩ := gd_e hf
  refine g_wld hx hb hK hS h40 d_Pm_advance_40 ?_
  refine g_nI hf (fun x41 hf => ?_)
  refine lv_iadd hx hb d_Pm_advance_41 ?_
  refine g_nI hf (fun x42 hf => ?_)
  refine g_putI hx hb hts hown hK hR hS pf_Pm_39 (fun _ => rfl) rfl rfl h38 d_Pm_advance_42 (fun H locs hR hS => ?_)
  refine g_nW hf hR (fun w43 hf hR => ?_)
  refine lv_aload_n hx hb d_Pm_advance_45 rfl (lv_at hl 0 rfl) ?_
  refine lv_dup hx hb d_Pm_advance_46 rfl ?_
  have ⟨h44, hf⟩ := gd_e hf
  refine g_getI hx hb hts hown hK hR fl_Pm_42 (fun _ => rfl) h44 d_Pm_advance_47 ?_
  refine g_nI hf (fun x45 hf => ?_)
  refine lv_iconst (v := 1) hx hb d_Pm_advance_50 (by decide) ?_
  refine lv_iadd hx hb d_Pm_advance_51 ?_
  refine g_nI hf (fun x46 hf => ?_)
  refine g_putI hx hb hts hown hK hR hS pf_Pm_42 (fun _ => rfl) rfl rfl h44 d_Pm_advance_52 (fun H locs hR hS => ?_)
  refine g_nW hf hR (fun w47 hf hR => ?_)
  exact g_vret hx hb hr hlocks hR hS hf d_Pm_advance_55
theorem c_Pm_advance_l2 {r : Unit} {wz : gW} (C : gC p s m args meth c "RidCoppers$Payment" b_Pm_advance 2 none D cA oc B) (a0 : Nat) (a1 : Int32) (w : gW) {ls : Array Slot} {H : Heap} {locs : List Loc} (hl : lv_has ls 2 [(0, .ref (B + a0)), (1, .int a1)]) (hf : f_Pm_advance_l2 N a0 a1 w = some (r, wz)) (hR : gRep D cA B w H) (hS : va_S (gA B) s.heap H locs) : W p l e ({ frames := 1, cells := 0, slots := 0, locals := 40 } : Room) s m args below meth c H locs 0 0 (MQ below (gQv D cA B r wz) args s 0 0 (gA B)) (F0 m 2 ls []) := by
  unfold f_Pm_advance_l2 at hf
  suffices hh : ∀ n : Nat, ∀ (a0 : Nat) (a1 : Int32) (w : gW) (ls : Array Slot) (H : Heap) (locs : List Loc), itr (fun rec (q : Nat × Int32 × gW) => f_Pm_advance_b2 N rec q.1 q.2.1 q.2.2) n (a0, a1, w) = some (r, wz) → lv_has ls 2 [(0, .ref (B + a0)), (1, .int a1)] → gRep D cA B w H → va_S (gA B) s.heap H locs → W p l e ({ frames := 1, cells := 0, slots := 0, locals := 40 } : Room) s m args below meth c H locs 0 0 (MQ below (gQv D cA B r wz) args s 0 0 (gA B)) (F0 m 2 ls []) from hh N a0 a1 w ls H locs hf hl hR hS
  intro n
  induction n with
  | zero => intro a0 a1 w ls H locs hf; cases hf
  | succ n ihn =>
    intro a0 a1 w ls H locs hf hl hR hS
    exact c_Pm_advance_b2 (N := N) ihn C a0 a1 w hl ((itr_s _ _ _).symm.trans hf) hR hS
set_option maxRecDepth 20000 in
theorem c_Pm_advance_b0 {r : Unit} {wz : gW} (C : gC p s m args meth c "RidCoppers$Payment" b_Pm_advance 2 none D cA oc B) (a0 : Nat) (w : gW) {ls : Array Slot} {H : Heap} {locs : List Loc} (hl : lv_has ls 2 [(0, .ref (B + a0))]) (hf : f_Pm_advance_b0 N a0 w = some (r, wz)) (hR : gRep D cA B w H) (hS : va_S (gA B) s.heap H locs) : W p l e ({ frames := 1, cells := 0, slots := 0, locals := 40 } : Room) s m args below meth c H locs 0 0 (MQ below (gQv D cA B r wz) args s 0 0 (gA B)) (F0 m 0 ls []) := by
  obtain ⟨hx, hb, hml, hown, hts, hr, hlocks, hK, hBs⟩ := id C
  unfold f_Pm_advance_b0 at hf
  refine lv_iconst (v := 5) hx hb d_Pm_advance_0 (by decide) ?_
  refine lv_istore_n (lv' := [(1, .int 5), (0, .ref (B + a0))]) hx hb d_Pm_advance_1 rfl hl (by decide) rfl (fun ls hl => ?_)
  exact c_Pm_advance_l2 C a0 5 w (lv_sub hl [1, 0] rfl) hf hR hS
theorem c_Pm_advance (l : Launch) (D : va_G) (cA : Nat → ClassId) (oc : gO) (B N : Nat) (a0 : Nat) (w : gW) {wz : gW} {r : Unit} (hf : f_Pm_advance N a0 w = some (r, wz)) : Met l y_Pm_advance (Cond.code y_Pm_advance b_Pm_advance 2 none :: lw_good) ({ frames := 1, cells := 0, slots := 0, locals := 40 } : Room) (gPre D cA oc B [.ref (B + a0)] w) (gQv D cA B r wz) 0 0 (gA B) := by
  refine Met.ofW (cc := b_Pm_advance) (maxL := 2) (ret := none) (by decide +kernel) rfl ?_
  intro p e s m args below meth c s₁ Bd hml hv
  obtain ⟨hargs, C, hR⟩ := gC.enter (l := l) rfl Bd hml hv
  subst hargs
  have hl := lv_entry ([.ref (B + a0)]) (n := 2) (Nat.le_of_ble_eq_true rfl)
  rw [lg_entry_eq]
  generalize (lg_sl ([.ref (B + a0)]) ++ List.replicate (2 - (lg_sl ([.ref (B + a0)])).length) Slot.unset).toArray = ls at hl ⊢
  have hl : lv_has ls 2 [(0, .ref (B + a0))] := hl
  exact c_Pm_advance_b0 C a0 w (lv_sub hl [0] rfl) hf hR va_S.rf
theorem d_Pm_begin_0 : decode b_Pm_begin 0 = .ok (.aload_n 0, 1) := by decide +kernel
theorem d_Pm_begin_1 : decode b_Pm_begin 1 = .ok (.aload_n 1, 1) := by decide +kernel
theorem d_Pm_begin_2 : decode b_Pm_begin 2 = .ok (.putfield 27, 3) := by decide +kernel
theorem d_Pm_begin_5 : decode b_Pm_begin 5 = .ok (.aload_n 0, 1) := by decide +kernel
theorem d_Pm_begin_6 : decode b_Pm_begin 6 = .ok (.aload_n 2, 1) := by decide +kernel
theorem d_Pm_begin_7 : decode b_Pm_begin 7 = .ok (.putfield 31, 3) := by decide +kernel
theorem d_Pm_begin_10 : decode b_Pm_begin 10 = .ok (.aload_n 0, 1) := by decide +kernel
theorem d_Pm_begin_11 : decode b_Pm_begin 11 = .ok (.iconst 0, 1) := by decide +kernel
theorem d_Pm_begin_12 : decode b_Pm_begin 12 = .ok (.putfield 39, 3) := by decide +kernel
theorem d_Pm_begin_15 : decode b_Pm_begin 15 = .ok (.aload_n 0, 1) := by decide +kernel
theorem d_Pm_begin_16 : decode b_Pm_begin 16 = .ok (.iconst 0, 1) := by decide +kernel
theorem d_Pm_begin_17 : decode b_Pm_begin 17 = .ok (.putfield 42, 3) := by decide +kernel
theorem d_Pm_begin_20 : decode b_Pm_begin 20 = .ok (.iconst 1, 1) := by decide +kernel
theorem d_Pm_begin_21 : decode b_Pm_begin 21 = .ok (.istore 4, 2) := by decide +kernel
theorem d_Pm_begin_23 : decode b_Pm_begin 23 = .ok (.iconst 0, 1) := by decide +kernel
theorem d_Pm_begin_24 : decode b_Pm_begin 24 = .ok (.istore 5, 2) := by decide +kernel
theorem d_Pm_begin_26 : decode b_Pm_begin 26 = .ok (.iload 5, 2) := by decide +kernel
theorem d_Pm_begin_28 : decode b_Pm_begin 28 = .ok (.bipush 6, 2) := by decide +kernel
theorem d_Pm_begin_30 : decode b_Pm_begin 30 = .ok (.if_icmp .ge 118, 3) := by decide +kernel
theorem d_Pm_begin_33 : decode b_Pm_begin 33 = .ok (.aload_n 0, 1) := by decide +kernel
theorem d_Pm_begin_34 : decode b_Pm_begin 34 = .ok (.getfield 15, 3) := by decide +kernel
theorem d_Pm_begin_37 : decode b_Pm_begin 37 = .ok (.iload 5, 2) := by decide +kernel
theorem d_Pm_begin_39 : decode b_Pm_begin 39 = .ok (.iconst 0, 1) := by decide +kernel
theorem d_Pm_begin_40 : decode b_Pm_begin 40 = .ok (.iastore, 1) := by decide +kernel
theorem d_Pm_begin_41 : decode b_Pm_begin 41 = .ok (.aload_n 0, 1) := by decide +kernel
theorem d_Pm_begin_42 : decode b_Pm_begin 42 = .ok (.getfield 18, 3) := by decide +kernel
theorem d_Pm_begin_45 : decode b_Pm_begin 45 = .ok (.iload 5, 2) := by decide +kernel
theorem d_Pm_begin_47 : decode b_Pm_begin 47 = .ok (.iconst 0, 1) := by decide +kernel
theorem d_Pm_begin_48 : decode b_Pm_begin 48 = .ok (.iastore, 1) := by decide +kernel
theorem d_Pm_begin_49 : decode b_Pm_begin 49 = .ok (.aload_n 1, 1) := by decide +kernel
theorem d_Pm_begin_50 : decode b_Pm_begin 50 = .ok (.getfield 104, 3) := by decide +kernel
theorem d_Pm_begin_53 : decode b_Pm_begin 53 = .ok (.aload_n 2, 1) := by decide +kernel
theorem d_Pm_begin_54 : decode b_Pm_begin 54 = .ok (.getfield 96, 3) := by decide +kernel
theorem d_Pm_begin_57 : decode b_Pm_begin 57 = .ok (.aaload, 1) := by decide +kernel
theorem d_Pm_begin_58 : decode b_Pm_begin 58 = .ok (.iload 5, 2) := by decide +kernel
theorem d_Pm_begin_60 : decode b_Pm_begin 60 = .ok (.iaload, 1) := by decide +kernel
theorem d_Pm_begin_61 : decode b_Pm_begin 61 = .ok (.aload_n 1, 1) := by decide +kernel
theorem d_Pm_begin_62 : decode b_Pm_begin 62 = .ok (.getfield 117, 3) := by decide +kernel
theorem d_Pm_begin_65 : decode b_Pm_begin 65 = .ok (.aload_n 1, 1) := by decide +kernel
theorem d_Pm_begin_66 : decode b_Pm_begin 66 = .ok (.aload_n 2, 1) := by decide +kernel
theorem d_Pm_begin_67 : decode b_Pm_begin 67 = .ok (.iload 5, 2) := by decide +kernel
theorem d_Pm_begin_69 : decode b_Pm_begin 69 = .ok (.invokevirtual 126, 3) := by decide +kernel
theorem d_Pm_begin_72 : decode b_Pm_begin 72 = .ok (.isub, 1) := by decide +kernel
theorem d_Pm_begin_73 : decode b_Pm_begin 73 = .ok (.istore 6, 2) := by decide +kernel
theorem d_Pm_begin_75 : decode b_Pm_begin 75 = .ok (.iload_n 3, 1) := by decide +kernel
theorem d_Pm_begin_76 : decode b_Pm_begin 76 = .ok (.ifCond .eq 13, 3) := by decide +kernel
theorem d_Pm_begin_79 : decode b_Pm_begin 79 = .ok (.aload_n 2, 1) := by decide +kernel
theorem d_Pm_begin_80 : decode b_Pm_begin 80 = .ok (.aload_n 1, 1) := by decide +kernel
theorem d_Pm_begin_81 : decode b_Pm_begin 81 = .ok (.iload 5, 2) := by decide +kernel
theorem d_Pm_begin_83 : decode b_Pm_begin 83 = .ok (.invokevirtual 130, 3) := by decide +kernel
theorem d_Pm_begin_86 : decode b_Pm_begin 86 = .ok (.ifCond .eq 7, 3) := by decide +kernel
theorem d_Pm_begin_89 : decode b_Pm_begin 89 = .ok (.iconst 1, 1) := by decide +kernel
theorem d_Pm_begin_90 : decode b_Pm_begin 90 = .ok (.goto 4, 3) := by decide +kernel
theorem d_Pm_begin_93 : decode b_Pm_begin 93 = .ok (.iconst 0, 1) := by decide +kernel
theorem d_Pm_begin_94 : decode b_Pm_begin 94 = .ok (.istore 7, 2) := by decide +kernel
theorem d_Pm_begin_96 : decode b_Pm_begin 96 = .ok (.aload_n 0, 1) := by decide +kernel
theorem d_Pm_begin_97 : decode b_Pm_begin 97 = .ok (.getfield 9, 3) := by decide +kernel
theorem d_Pm_begin_100 : decode b_Pm_begin 100 = .ok (.iload 5, 2) := by decide +kernel
theorem d_Pm_begin_102 : decode b_Pm_begin 102 = .ok (.iload 7, 2) := by decide +kernel
theorem d_Pm_begin_104 : decode b_Pm_begin 104 = .ok (.ifCond .eq 22, 3) := by decide +kernel
theorem d_Pm_begin_107 : decode b_Pm_begin 107 = .ok (.iconst 0, 1) := by decide +kernel
theorem d_Pm_begin_108 : decode b_Pm_begin 108 = .ok (.aload_n 1, 1) := by decide +kernel
theorem d_Pm_begin_109 : decode b_Pm_begin 109 = .ok (.getfield 117, 3) := by decide +kernel
theorem d_Pm_begin_112 : decode b_Pm_begin 112 = .ok (.getfield 134, 3) := by decide +kernel
theorem d_Pm_begin_115 : decode b_Pm_begin 115 = .ok (.iload 6, 2) := by decide +kernel
theorem d_Pm_begin_117 : decode b_Pm_begin 117 = .ok (.invokestatic 84, 3) := by decide +kernel
theorem d_Pm_begin_120 : decode b_Pm_begin 120 = .ok (.invokestatic 137, 3) := by decide +kernel
theorem d_Pm_begin_123 : decode b_Pm_begin 123 = .ok (.goto 4, 3) := by decide +kernel
theorem d_Pm_begin_126 : decode b_Pm_begin 126 = .ok (.iconst 0, 1) := by decide +kernel
theorem d_Pm_begin_127 : decode b_Pm_begin 127 = .ok (.iastore, 1) := by decide +kernel
theorem d_Pm_begin_128 : decode b_Pm_begin 128 = .ok (.iload 4, 2) := by decide +kernel
theorem d_Pm_begin_130 : decode b_Pm_begin 130 = .ok (.aload_n 0, 1) := by decide +kernel
theorem d_Pm_begin_131 : decode b_Pm_begin 131 = .ok (.getfield 9, 3) := by decide +kernel
theorem d_Pm_begin_134 : decode b_Pm_begin 134 = .ok (.iload 5, 2) := by decide +kernel
theorem d_Pm_begin_136 : decode b_Pm_begin 136 = .ok (.iaload, 1) := by decide +kernel
theorem d_Pm_begin_137 : decode b_Pm_begin 137 = .ok (.iconst 1, 1) := by decide +kernel
theorem d_Pm_begin_138 : decode b_Pm_begin 138 = .ok (.iadd, 1) := by decide +kernel
theorem d_Pm_begin_139 : decode b_Pm_begin 139 = .ok (.imul, 1) := by decide +kernel
theorem d_Pm_begin_140 : decode b_Pm_begin 140 = .ok (.istore 4, 2) := by decide +kernel
theorem d_Pm_begin_142 : decode b_Pm_begin 142 = .ok (.iinc 5 1, 3) := by decide +kernel
theorem d_Pm_begin_145 : decode b_Pm_begin 145 = .ok (.goto (-119), 3) := by decide +kernel
theorem d_Pm_begin_148 : decode b_Pm_begin 148 = .ok (.iload 4, 2) := by decide +kernel
theorem d_Pm_begin_150 : decode b_Pm_begin 150 = .ok (.ireturn, 1) := by decide +kernel
set_option maxRecDepth 20000 in
theorem g_rv_partsWith {R : Room} {H : Heap} {locs : List Loc} {cells slots idx nL a pc : Nat} {ls : Array Slot} {cc : ByteArray} {own : String} {w w1 : gW} {rest st0 : List Value} {a1 : Nat} {a2 : Int32} {x : Int32} (hexec : p.tables.exec = Jvm.exec) (hb : c.code = cc) (hml : c.maxLocals = nL) (hown : s.vm.findClass own = some m.cls) (hts : ∀ w ∈ lw_good, w.before args s = true) (hK : gK D cA oc B s s.heap) (hR : gRep D cA B w H) (hS : va_S (gA B) s.heap H locs) (hh : v_partsWith N a a1 a2 w = some (x, w1)) (hl : Cond.methodLink own idx y_P_partsWith ∈ lw_good) (hstack : st0 = .int a2 :: .ref (B + a1) :: .ref (B + a) :: rest) (hcat : (rest.map fun v => v.category).sum ≤ 8) (hsz : ls.size = nL) (hrm : 2 ≤ R.frames ∧ 62 ≤ R.locals) (hcs : cells ≤ R.cells ∧ slots ≤ R.slots) (hdg : decode cc pc = .ok (.invokevirtual idx, 3)) : va_Run p l e R s m args below meth c H locs cells slots 0 0 (F0 m pc ls st0) rest (gQi D cA B x w1 (Value.ref (B + a) :: [.ref (B + a1), .int a2]).toArray) (gA B) := by
  unfold v_partsWith at hh
  by_cases h0 : (sh w a).1 = 0
  · have hh := cd_t h0 hh
    exact g_rU (As := [.ref (B + a1), .int a2]) (rest := rest) (x := y_P_partsWith) (owner := "RidCoppers$Payer") (C := "RidCoppers$Payer") hexec hb hml hown hts hK hR hS (c_P_partsWith l D cA oc B N a a1 a2 w hh) I_P_partsWith hl m_630 m_628 m_641 m_629 (by decide) (by decide +kernel) (gRecv hK hR (ci := 0) rfl h0) rfl hstack hcat hsz ⟨Nat.le_trans (m := 2) (Nat.le_of_ble_eq_true rfl) hrm.1, Nat.le_trans (m := 62) (Nat.le_of_ble_eq_true rfl) hrm.2⟩ hcs hdg
  have hh := cd_f h0 hh
  by_cases h1 : (sh w a).1 = 1
  · have hh := cd_t h1 hh
    exact g_rU (As := [.ref (B + a1), .int a2]) (rest := rest) (x := y_P_partsWith) (owner := "RidCoppers$Payer") (C := "RidCoppers$Exact") hexec hb hml hown hts hK hR hS (c_P_partsWith l D cA oc B N a a1 a2 w hh) I_P_partsWith hl m_630 m_628 m_641 m_631 (by decide) (by decide +kernel) (gRecv hK hR (ci := 1) rfl h1) rfl hstack hcat hsz ⟨Nat.le_trans (m := 2) (Nat.le_of_ble_eq_true rfl) hrm.1, Nat.le_trans (m := 62) (Nat.le_of_ble_eq_true rfl) hrm.2⟩ hcs hdg
  have hh := cd_f h1 hh
  by_cases h2 : (sh w a).1 = 2
  · have hh := cd_t h2 hh
    exact g_rU (As := [.ref (B + a1), .int a2]) (rest := rest) (x := y_P_partsWith) (owner := "RidCoppers$Payer") (C := "RidCoppers$Rough") hexec hb hml hown hts hK hR hS (c_P_partsWith l D cA oc B N a a1 a2 w hh) I_P_partsWith hl m_630 m_628 m_641 m_636 (by decide) (by decide +kernel) (gRecv hK hR (ci := 2) rfl h2) rfl hstack hcat hsz ⟨Nat.le_trans (m := 2) (Nat.le_of_ble_eq_true rfl) hrm.1, Nat.le_trans (m := 62) (Nat.le_of_ble_eq_true rfl) hrm.2⟩ hcs hdg
  have hh := cd_f h2 hh
  by_cases h3 : (sh w a).1 = 3
  · have hh := cd_t h3 hh
    exact g_rU (As := [.ref (B + a1), .int a2]) (rest := rest) (x := y_P_partsWith) (owner := "RidCoppers$Payer") (C := "RidCoppers$Keeper") hexec hb hml hown hts hK hR hS (c_Ke_partsWith l D cA oc B N a a1 a2 w hh) I_Ke_partsWith hl m_630 m_628 m_641 m_632 (by decide) (by decide +kernel) (gRecv hK hR (ci := 3) rfl h3) rfl hstack hcat hsz ⟨Nat.le_trans (m := 2) (Nat.le_of_ble_eq_true rfl) hrm.1, Nat.le_trans (m := 62) (Nat.le_of_ble_eq_true rfl) hrm.2⟩ hcs hdg
  have hh := cd_f h3 hh
  by_cases h4 : (sh w a).1 = 4
  · have hh := cd_t h4 hh
    exact g_rU (As := [.ref (B + a1), .int a2]) (rest := rest) (x := y_P_partsWith) (owner := "RidCoppers$Payer") (C := "RidCoppers$Light") hexec hb hml hown hts hK hR hS (c_P_partsWith l D cA oc B N a a1 a2 w hh) I_P_partsWith hl m_630 m_628 m_641 m_635 (by decide) (by decide +kernel) (gRecv hK hR (ci := 4) rfl h4) rfl hstack hcat hsz ⟨Nat.le_trans (m := 2) (Nat.le_of_ble_eq_true rfl) hrm.1, Nat.le_trans (m := 62) (Nat.le_of_ble_eq_true rfl) hrm.2⟩ hcs hdg
  have hh := cd_f h4 hh
  by_cases h5 : (sh w a).1 = 5
  · have hh := cd_t h5 hh
    exact g_rU (As := [.ref (B + a1), .int a2]) (rest := rest) (x := y_P_partsWith) (owner := "RidCoppers$Payer") (C := "RidCoppers$Wild") hexec hb hml hown hts hK hR hS (c_P_partsWith l D cA oc B N a a1 a2 w hh) I_P_partsWith hl m_630 m_628 m_641 m_640 (by decide) (by decide +kernel) (gRecv hK hR (ci := 5) rfl h5) rfl hstack hcat hsz ⟨Nat.le_trans (m := 2) (Nat.le_of_ble_eq_true rfl) hrm.1, Nat.le_trans (m := 62) (Nat.le_of_ble_eq_true rfl) hrm.2⟩ hcs hdg
  have hh := cd_f h5 hh
  by_cases h6 : (sh w a).1 = 6
  · have hh := cd_t h6 hh
    exact g_rU (As := [.ref (B + a1), .int a2]) (rest := rest) (x := y_P_partsWith) (owner := "RidCoppers$Payer") (C := "RidCoppers$Told") hexec hb hml hown hts hK hR hS (c_To_partsWith l D cA oc B N a a1 a2 w hh) I_To_partsWith hl m_630 m_628 m_641 m_637 (by decide) (by decide +kernel) (gRecv hK hR (ci := 6) rfl h6) rfl hstack hcat hsz ⟨Nat.le_trans (m := 2) (Nat.le_of_ble_eq_true rfl) hrm.1, Nat.le_trans (m := 62) (Nat.le_of_ble_eq_true rfl) hrm.2⟩ hcs hdg
  have hh := cd_f h6 hh
  cases hh
set_option maxRecDepth 20000 in
theorem c_Pm_begin_b127 {r : Int32} {wz : gW} {rec26 : Nat × Nat × Nat × Int32 × Int32 × Int32 × gW → Option (Int32 × gW)} (ih26 : ∀ (a0 : Nat) (a1 : Nat) (a2 : Nat) (a3 : Int32) (a4 : Int32) (a5 : Int32) (w : gW) (ls : Array Slot) (H : Heap) (locs : List Loc), rec26 (a0, a1, a2, a3, a4, a5, w) = some (r, wz) → lv_has ls 8 [(0, .ref (B + a0)), (1, .ref (B + a1)), (2, .ref (B + a2)), (3, .int a3), (4, .int a4), (5, .int a5)] → gRep D cA B w H → va_S (gA B) s.heap H locs → W p l e ({ frames := 5, cells := 0, slots := 0, locals := 135 } : Room) s m args below meth c H locs 0 0 (MQ below (gQi D cA B r wz) args s 0 0 (gA B)) (F0 m 26 ls [])) (C : gC p s m args meth c "RidCoppers$Payment" b_Pm_begin 8 (some .int) D cA oc B) (a0 : Nat) (a1 : Nat) (a2 : Nat) (a3 : Int32) (a4 : Int32) (a5 : Int32) (z0 : Int32) (z1 : Int32) (z2 : Nat) (w : gW) {ls : Array Slot} {H : Heap} {locs : List Loc} (hl : lv_has ls 8 [(0, .ref (B + a0)), (1, .ref (B + a1)), (2, .ref (B + a2)), (3, .int a3), (4, .int a4), (5, .int a5)]) (hf : f_Pm_begin_b127 N rec26 a0 a1 a2 a3 a4 a5 z0 z1 z2 w = some (r, wz)) (hR : gRep D cA B w H) (hS : va_S (gA B) s.heap H locs) : W p l e ({ frames := 5, cells := 0, slots := 0, locals := 135 } : Room) s m args below meth c H locs 0 0 (MQ below (gQi D cA B r wz) args s 0 0 (gA B)) (F0 m 127 ls [.int z0, .int z1, .ref (B + z2)]) := by
  obtain ⟨hx, hb, hml, hown, hts, hr, hlocks, hK, hBs⟩ := id C
  unfold f_Pm_begin_b127 at hf
  have ⟨h43, hf⟩ := gd_e hf
  have ⟨h44, hf⟩ := gd_e hf
  refine g_iast hx hb hK hR hS h43 h44 d_Pm_begin_127 (fun H locs hR hS => ?_)
  refine g_nW hf hR (fun w45 hf hR => ?_)
  refine lv_iload hx hb d_Pm_begin_128 (lv_at hl 4 rfl) ?_
  refine lv_aload_n hx hb d_Pm_begin_130 rfl (lv_at hl 0 rfl) ?_
  have ⟨h46, hf⟩ := gd_e hf
  have ⟨x47, h48, hf⟩ := rr_e hf
  refine g_getR hx hb hts hown hK hR fl_Pm_9 (fun _ => rfl) h46 h48 d_Pm_begin_131 ?_
  refine lv_iload hx hb d_Pm_begin_134 (lv_at hl 5 rfl) ?_
  have ⟨h49, hf⟩ := gd_e hf
  have ⟨h50, hf⟩ := gd_e hf
  refine g_iald hx hb hK hR h49 h50 d_Pm_begin_136 ?_
  refine g_nI hf (fun x51 hf => ?_)
  refine lv_iconst (v := 1) hx hb d_Pm_begin_137 (by decide) ?_
  refine lv_iadd hx hb d_Pm_begin_138 ?_
  refine g_nI hf (fun x52 hf => ?_)
  refine lv_imul hx hb d_Pm_begin_139 ?_
  refine g_nI hf (fun x53 hf => ?_)
  refine lv_istore (lv' := [(4, .int x53), (0, .ref (B + a0)), (1, .ref (B + a1)), (2, .ref (B + a2)), (3, .int a3), (5, .int a5)]) hx hb d_Pm_begin_140 hl (by decide) rfl (fun ls hl => ?_)
  refine g_iinc (lv' := fun x54 => [(5, .int x54), (4, .int x53), (0, .ref (B + a0)), (1, .ref (B + a1)), (2, .ref (B + a2)), (3, .int a3)]) hf hx hb d_Pm_begin_142 hl (k := 5) rfl (by decide) (by decide) (fun _ => rfl) (fun x54 ls hf hl => ?_)
  refine lv_goto (tgt := 26) hx hb d_Pm_begin_145 (by decide) ?_
  exact ih26 a0 a1 a2 a3 x53 x54 w45 _ _ _ hf (lv_sub hl [2, 3, 4, 5, 1, 0] rfl) hR hS
set_option maxRecDepth 20000 in
theorem c_Pm_begin_b94 {r : Int32} {wz : gW} {rec26 : Nat × Nat × Nat × Int32 × Int32 × Int32 × gW → Option (Int32 × gW)} (ih26 : ∀ (a0 : Nat) (a1 : Nat) (a2 : Nat) (a3 : Int32) (a4 : Int32) (a5 : Int32) (w : gW) (ls : Array Slot) (H : Heap) (locs : List Loc), rec26 (a0, a1, a2, a3, a4, a5, w) = some (r, wz) → lv_has ls 8 [(0, .ref (B + a0)), (1, .ref (B + a1)), (2, .ref (B + a2)), (3, .int a3), (4, .int a4), (5, .int a5)] → gRep D cA B w H → va_S (gA B) s.heap H locs → W p l e ({ frames := 5, cells := 0, slots := 0, locals := 135 } : Room) s m args below meth c H locs 0 0 (MQ below (gQi D cA B r wz) args s 0 0 (gA B)) (F0 m 26 ls [])) (C : gC p s m args meth c "RidCoppers$Payment" b_Pm_begin 8 (some .int) D cA oc B) (a0 : Nat) (a1 : Nat) (a2 : Nat) (a3 : Int32) (a4 : Int32) (a5 : Int32) (a6 : Int32) (z0 : Int32) (w : gW) {ls : Array Slot} {H : Heap} {locs : List Loc} (hl : lv_has ls 8 [(0, .ref (B + a0)), (1, .ref (B + a1)), (2, .ref (B + a2)), (3, .int a3), (4, .int a4), (5, .int a5), (6, .int a6)]) (hf : f_Pm_begin_b94 N rec26 a0 a1 a2 a3 a4 a5 a6 z0 w = some (r, wz)) (hR : gRep D cA B w H) (hS : va_S (gA B) s.heap H locs) : W p l e ({ frames := 5, cells := 0, slots := 0, locals := 135 } : Room) s m args below meth c H locs 0 0 (MQ below (gQi D cA B r wz) args s 0 0 (gA B)) (F0 m 94 ls [.int z0]) := by
  obtain ⟨hx, hb, hml, hown, hts, hr, hlocks, hK, hBs⟩ := id C
  unfold f_Pm_begin_b94 at hf
  refine lv_istore (lv' := [(7, .int z0), (0, .ref (B + a0)), (1, .ref (B + a1)), (2, .ref (B + a2)), (3, .int a3), (4, .int a4), (5, .int a5), (6, .int a6)]) hx hb d_Pm_begin_94 hl (by decide) rfl (fun ls hl => ?_)
  refine lv_aload_n hx hb d_Pm_begin_96 rfl (lv_at hl 1 rfl) ?_
  have ⟨h40, hf⟩ := gd_e hf
  have ⟨x41, h42, hf⟩ := rr_e hf
  refine g_getR hx hb hts hown hK hR fl_Pm_9 (fun _ => rfl) h40 h42 d_Pm_begin_97 ?_
  refine lv_iload hx hb d_Pm_begin_100 (lv_at hl 6 rfl) ?_
  refine lv_iload hx hb d_Pm_begin_102 (lv_at hl 0 rfl) ?_
  refine lv_if_eq (tgt := 126) hx hb d_Pm_begin_104 (by decide) (fun hc => ?_) (fun hc => ?_)
  · have hf := cd_t hc hf
    refine lv_iconst (v := 0) hx hb d_Pm_begin_126 (by decide) ?_
    exact c_Pm_begin_b127 ih26 C a0 a1 a2 a3 a4 a5 0 a5 x41 w (lv_sub hl [1, 2, 3, 4, 5, 6] rfl) hf hR hS
  have hf := cd_f hc hf
  refine lv_iconst (v := 0) hx hb d_Pm_begin_107 (by decide) ?_
  refine lv_aload_n hx hb d_Pm_begin_108 rfl (lv_at hl 2 rfl) ?_
  have ⟨h55, hf⟩ := gd_e hf
  have ⟨x56, h57, hf⟩ := rr_e hf
  refine g_getR hx hb hts hown hK hR fl_Pm_117 (fun _ => rfl) h55 h57 d_Pm_begin_109 ?_
  have ⟨h58, hf⟩ := gd_e hf
  refine g_getI hx hb hts hown hK hR fl_Pm_134 (fun _ => rfl) h58 d_Pm_begin_112 ?_
  refine g_nI hf (fun x59 hf => ?_)
  refine lv_iload hx hb d_Pm_begin_115 (lv_at hl 7 rfl) ?_
  refine va_mmin hx hb (hml.trans hl.1.symm) hown (hts _ m_642) (hts _ m_553) (hts _ m_18) (hts _ m_554) (Nat.le_of_ble_eq_true rfl) (Nat.le_of_ble_eq_true rfl) (Nat.zero_le _) (Nat.zero_le _) d_Pm_begin_117 ?_
  refine g_nI hf (fun x60 hf => ?_)
  refine va_mmax hx hb (hml.trans hl.1.symm) hown (hts _ m_643) (hts _ m_550) (hts _ m_18) (hts _ m_551) (Nat.le_of_ble_eq_true rfl) (Nat.le_of_ble_eq_true rfl) (Nat.zero_le _) (Nat.zero_le _) d_Pm_begin_120 ?_
  refine g_nI hf (fun x61 hf => ?_)
  refine lv_goto (tgt := 127) hx hb d_Pm_begin_123 (by decide) ?_
  exact c_Pm_begin_b127 ih26 C a0 a1 a2 a3 a4 a5 x61 a5 x41 w (lv_sub hl [1, 2, 3, 4, 5, 6] rfl) hf hR hS
set_option maxRecDepth 20000 in
theorem c_Pm_begin_b89 {r : Int32} {wz : gW} {rec26 : Nat × Nat × Nat × Int32 × Int32 × Int32 × gW → Option (Int32 × gW)} (ih26 : ∀ (a0 : Nat) (a1 : Nat) (a2 : Nat) (a3 : Int32) (a4 : Int32) (a5 : Int32) (w : gW) (ls : Array Slot) (H : Heap) (locs : List Loc), rec26 (a0, a1, a2, a3, a4, a5, w) = some (r, wz) → lv_has ls 8 [(0, .ref (B + a0)), (1, .ref (B + a1)), (2, .ref (B + a2)), (3, .int a3), (4, .int a4), (5, .int a5)] → gRep D cA B w H → va_S (gA B) s.heap H locs → W p l e ({ frames := 5, cells := 0, slots := 0, locals := 135 } : Room) s m args below meth c H locs 0 0 (MQ below (gQi D cA B r wz) args s 0 0 (gA B)) (F0 m 26 ls [])) (C : gC p s m args meth c "RidCoppers$Payment" b_Pm_begin 8 (some .int) D cA oc B) (a0 : Nat) (a1 : Nat) (a2 : Nat) (a3 : Int32) (a4 : Int32) (a5 : Int32) (a6 : Int32) (w : gW) {ls : Array Slot} {H : Heap} {locs : List Loc} (hl : lv_has ls 8 [(0, .ref (B + a0)), (1, .ref (B + a1)), (2, .ref (B + a2)), (3, .int a3), (4, .int a4), (5, .int a5), (6, .int a6)]) (hf : f_Pm_begin_b89 N rec26 a0 a1 a2 a3 a4 a5 a6 w = some (r, wz)) (hR : gRep D cA B w H) (hS : va_S (gA B) s.heap H locs) : W p l e ({ frames := 5, cells := 0, slots := 0, locals := 135 } : Room) s m args below meth c H locs 0 0 (MQ below (gQi D cA B r wz) args s 0 0 (gA B)) (F0 m 89 ls []) := by
  obtain ⟨hx, hb, hml, hown, hts, hr, hlocks, hK, hBs⟩ := id C
  unfold f_Pm_begin_b89 at hf
  refine lv_iconst (v := 1) hx hb d_Pm_begin_89 (by decide) ?_
  refine lv_goto (tgt := 94) hx hb d_Pm_begin_90 (by decide) ?_
  exact c_Pm_begin_b94 ih26 C a0 a1 a2 a3 a4 a5 a6 1 w (lv_sub hl [0, 1, 2, 3, 4, 5, 6] rfl) hf hR hS
set_option maxRecDepth 20000 in
theorem c_Pm_begin_b26 {r : Int32} {wz : gW} {rec26 : Nat × Nat × Nat × Int32 × Int32 × Int32 × gW → Option (Int32 × gW)} (ih26 : ∀ (a0 : Nat) (a1 : Nat) (a2 : Nat) (a3 : Int32) (a4 : Int32) (a5 : Int32) (w : gW) (ls : Array Slot) (H : Heap) (locs : List Loc), rec26 (a0, a1, a2, a3, a4, a5, w) = some (r, wz) → lv_has ls 8 [(0, .ref (B + a0)), (1, .ref (B + a1)), (2, .ref (B + a2)), (3, .int a3), (4, .int a4), (5, .int a5)] → gRep D cA B w H → va_S (gA B) s.heap H locs → W p l e ({ frames := 5, cells := 0, slots := 0, locals := 135 } : Room) s m args below meth c H locs 0 0 (MQ below (gQi D cA B r wz) args s 0 0 (gA B)) (F0 m 26 ls [])) (C : gC p s m args meth c "RidCoppers$Payment" b_Pm_begin 8 (some .int) D cA oc B) (a0 : Nat) (a1 : Nat) (a2 : Nat) (a3 : Int32) (a4 : Int32) (a5 : Int32) (w : gW) {ls : Array Slot} {H : Heap} {locs : List Loc} (hl : lv_has ls 8 [(0, .ref (B + a0)), (1, .ref (B + a1)), (2, .ref (B + a2)), (3, .int a3), (4, .int a4), (5, .int a5)]) (hf : f_Pm_begin_b26 N rec26 a0 a1 a2 a3 a4 a5 w = some (r, wz)) (hR : gRep D cA B w H) (hS : va_S (gA B) s.heap H locs) : W p l e ({ frames := 5, cells := 0, slots := 0, locals := 135 } : Room) s m args below meth c H locs 0 0 (MQ below (gQi D cA B r wz) args s 0 0 (gA B)) (F0 m 26 ls []) := by
  obtain ⟨hx, hb, hml, hown, hts, hr, hlocks, hK, hBs⟩ := id C
  unfold f_Pm_begin_b26 at hf
  refine lv_iload hx hb d_Pm_begin_26 (lv_at hl 5 rfl) ?_
  refine lv_bipush (v := 6) hx hb d_Pm_begin_28 (by decide) ?_
  refine lv_icmp_ge (tgt := 148) hx hb d_Pm_begin_30 (by decide) (fun hc => ?_) (fun hc => ?_)
  · have hf := cd_t hc hf
    refine lv_iload hx hb d_Pm_begin_148 (lv_at hl 4 rfl) ?_
    exact g_iret hx hb hr hlocks hR hS hf rfl d_Pm_begin_150
  have hf := cd_f hc hf
  refine lv_aload_n hx hb d_Pm_begin_33 rfl (lv_at hl 0 rfl) ?_
  have ⟨h9, hf⟩ := gd_e hf
  have ⟨x10, h11, hf⟩ := rr_e hf
  refine g_getR hx hb hts hown hK hR fl_Pm_15 (fun _ => rfl) h9 h11 d_Pm_begin_34 ?_
  refine lv_iload hx hb d_Pm_begin_37 (lv_at hl 5 rfl) ?_
  refine lv_iconst (v := 0) hx hb d_Pm_begin_39 (by decide) ?_
  have ⟨h12, hf⟩ := gd_e hf
  have ⟨h13, hf⟩ := gd_e hf
  refine g_iast hx hb hK hR hS h12 h13 d_Pm_begin_40 (fun H locs hR hS => ?_)
  refine g_nW hf hR (fun w14 hf hR => ?_)
  refine lv_aload_n hx hb d_Pm_begin_41 rfl (lv_at hl 0 rfl) ?_
  have ⟨h15, hf⟩ := gd_e hf
  have ⟨x16, h17, hf⟩ := rr_e hf
  refine g_getR hx hb hts hown hK hR fl_Pm_18 (fun _ => rfl) h15 h17 d_Pm_begin_42 ?_
  refine lv_iload hx hb d_Pm_begin_45 (lv_at hl 5 rfl) ?_
  refine lv_iconst (v := 0) hx hb d_Pm_begin_47 (by decide) ?_
  have ⟨h18, hf⟩ := gd_e hf
  have ⟨h19, hf⟩ := gd_e hf
  refine g_iast hx hb hK hR hS h18 h19 d_Pm_begin_48 (fun H locs hR hS => ?_)
  refine g_nW hf hR (fun w20 hf hR => ?_)
  refine lv_aload_n hx hb d_Pm_begin_49 rfl (lv_at hl 1 rfl) ?_
  have ⟨h21, hf⟩ := gd_e hf
  have ⟨x22, h23, hf⟩ := rr_e hf
  refine g_getR hx hb hts hown hK hR fl_Pm_104 (fun _ => rfl) h21 h23 d_Pm_begin_50 ?_
  refine lv_aload_n hx hb d_Pm_begin_53 rfl (lv_at hl 2 rfl) ?_
  have ⟨h24, hf⟩ := gd_e hf
  refine g_getI hx hb hts hown hK hR (flP_Pm_96 _ h24) (payv h24) rfl d_Pm_begin_54 ?_
  refine g_nI hf (fun x25 hf => ?_)
  have ⟨h26, hf⟩ := gd_e hf
  have ⟨h27, hf⟩ := gd_e hf
  have ⟨x28, h29, hf⟩ := rr_e hf
  refine g_aald hx hb hK hR (by decide) rfl (fun _ _ => rfl) h26 h27 h29 d_Pm_begin_57 ?_
  refine lv_iload hx hb d_Pm_begin_58 (lv_at hl 5 rfl) ?_
  have ⟨h30, hf⟩ := gd_e hf
  have ⟨h31, hf⟩ := gd_e hf
  refine g_iald hx hb hK hR h30 h31 d_Pm_begin_60 ?_
  refine g_nI hf (fun x32 hf => ?_)
  refine lv_aload_n hx hb d_Pm_begin_61 rfl (lv_at hl 1 rfl) ?_
  have ⟨x33, h34, hf⟩ := rr_e hf
  refine g_getR hx hb hts hown hK hR fl_Pm_117 (fun _ => rfl) h21 h34 d_Pm_begin_62 ?_
  refine lv_aload_n hx hb d_Pm_begin_65 rfl (lv_at hl 1 rfl) ?_
  refine lv_aload_n hx hb d_Pm_begin_66 rfl (lv_at hl 2 rfl) ?_
  refine lv_iload hx hb d_Pm_begin_67 (lv_at hl 5 rfl) ?_
  have ⟨h38, hf⟩ := gd_e hf
  have ⟨x35, w36, h37, hf⟩ := kl_e hf
  refine g_ki0 (g_rV (As := [.ref (B + a1), .ref (B + a2), .int a5]) (rest := [.int x32]) hx hb hml hown hts hK hR hS (c_Tn_kept l D cA oc B N x33 a1 a2 a5 w20 h37) I_Tn_kept m_626 m_383 (gRecv hK hR (ci := 7) rfl h38) rfl rfl (Nat.le_of_ble_eq_true rfl) hl.1 ⟨Nat.le_of_ble_eq_true rfl, Nat.le_of_ble_eq_true rfl⟩ ⟨Nat.le_of_ble_eq_true rfl, Nat.le_of_ble_eq_true rfl⟩ d_Pm_begin_69) hS (fun H locs hR hS => ?_)
  refine lv_isub hx hb d_Pm_begin_72 ?_
  refine g_nI hf (fun x39 hf => ?_)
  refine lv_istore (lv' := [(6, .int x39), (0, .ref (B + a0)), (1, .ref (B + a1)), (2, .ref (B + a2)), (3, .int a3), (4, .int a4), (5, .int a5)]) hx hb d_Pm_begin_73 hl (by decide) rfl (fun ls hl => ?_)
  refine lv_iload_n hx hb d_Pm_begin_75 rfl (lv_at hl 4 rfl) ?_
  refine lv_if_eq (tgt := 89) hx hb d_Pm_begin_76 (by decide) (fun hc => ?_) (fun hc => ?_)
  · have hf := cd_t hc hf
    exact c_Pm_begin_b89 ih26 C a0 a1 a2 a3 a4 a5 x39 w36 (lv_sub hl [1, 2, 3, 4, 5, 6, 0] rfl) hf hR hS
  have hf := cd_f hc hf
  refine lv_aload_n hx hb d_Pm_begin_79 rfl (lv_at hl 3 rfl) ?_
  refine lv_aload_n hx hb d_Pm_begin_80 rfl (lv_at hl 2 rfl) ?_
  refine lv_iload hx hb d_Pm_begin_81 (lv_at hl 6 rfl) ?_
  have ⟨x62, w63, h64, hf⟩ := kl_e hf
  refine g_ki0 (g_rv_partsWith (rest := []) hx hb hml hown hts hK hR hS h64 m_627 rfl (Nat.le_of_ble_eq_true rfl) hl.1 ⟨Nat.le_of_ble_eq_true rfl, Nat.le_of_ble_eq_true rfl⟩ ⟨Nat.le_of_ble_eq_true rfl, Nat.le_of_ble_eq_true rfl⟩ d_Pm_begin_83) hS (fun H locs hR hS => ?_)
  refine lv_if_eq (tgt := 93) hx hb d_Pm_begin_86 (by decide) (fun hc => ?_) (fun hc => ?_)
  · have hf := cd_t hc hf
    refine lv_iconst (v := 0) hx hb d_Pm_begin_93 (by decide) ?_
    exact c_Pm_begin_b94 ih26 C a0 a1 a2 a3 a4 a5 x39 0 w63 (lv_sub hl [1, 2, 3, 4, 5, 6, 0] rfl) hf hR hS
  have hf := cd_f hc hf
  exact c_Pm_begin_b89 ih26 C a0 a1 a2 a3 a4 a5 x39 w63 (lv_sub hl [1, 2, 3, 4, 5, 6, 0] rfl) hf hR hS
theorem c_Pm_begin_l26 {r : Int32} {wz : gW} (C : gC p s m args meth c "RidCoppers$Payment" b_Pm_begin 8 (some .int) D cA oc B) (a0 : Nat) (a1 : Nat) (a2 : Nat) (a3 : Int32) (a4 : Int32) (a5 : Int32) (w : gW) {ls : Array Slot} {H : Heap} {locs : List Loc} (hl : lv_has ls 8 [(0, .ref (B + a0)), (1, .ref (B + a1)), (2, .ref (B + a2)), (3, .int a3), (4, .int a4), (5, .int a5)]) (hf : f_Pm_begin_l26 N a0 a1 a2 a3 a4 a5 w = some (r, wz)) (hR : gRep D cA B w H) (hS : va_S (gA B) s.heap H locs) : W p l e ({ frames := 5, cells := 0, slots := 0, locals := 135 } : Room) s m args below meth c H locs 0 0 (MQ below (gQi D cA B r wz) args s 0 0 (gA B)) (F0 m 26 ls []) := by
  unfold f_Pm_begin_l26 at hf
  suffices hh : ∀ n : Nat, ∀ (a0 : Nat) (a1 : Nat) (a2 : Nat) (a3 : Int32) (a4 : Int32) (a5 : Int32) (w : gW) (ls : Array Slot) (H : Heap) (locs : List Loc), itr (fun rec (q : Nat × Nat × Nat × Int32 × Int32 × Int32 × gW) => f_Pm_begin_b26 N rec q.1 q.2.1 q.2.2.1 q.2.2.2.1 q.2.2.2.2.1 q.2.2.2.2.2.1 q.2.2.2.2.2.2) n (a0, a1, a2, a3, a4, a5, w) = some (r, wz) → lv_has ls 8 [(0, .ref (B + a0)), (1, .ref (B + a1)), (2, .ref (B + a2)), (3, .int a3), (4, .int a4), (5, .int a5)] → gRep D cA B w H → va_S (gA B) s.heap H locs → W p l e ({ frames := 5, cells := 0, slots := 0, locals := 135 } : Room) s m args below meth c H locs 0 0 (MQ below (gQi D cA B r wz) args s 0 0 (gA B)) (F0 m 26 ls []) from hh N a0 a1 a2 a3 a4 a5 w ls H locs hf hl hR hS
  intro n
  induction n with
  | zero => intro a0 a1 a2 a3 a4 a5 w ls H locs hf; cases hf
  | succ n ihn =>
    intro a0 a1 a2 a3 a4 a5 w ls H locs hf hl hR hS
    exact c_Pm_begin_b26 (N := N) ihn C a0 a1 a2 a3 a4 a5 w hl ((itr_s _ _ _).symm.trans hf) hR hS
set_option maxRecDepth 20000 in
theorem c_Pm_begin_b0 {r : Int32} {wz : gW} (C : gC p s m args meth c "RidCoppers$Payment" b_Pm_begin 8 (some .int) D cA oc B) (a0 : Nat) (a1 : Nat) (a2 : Nat) (a3 : Int32) (w : gW) {ls : Array Slot} {H : Heap} {locs : List Loc} (hl : lv_has ls 8 [(0, .ref (B + a0)), (1, .ref (B + a1)), (2, .ref (B + a2)), (3, .int a3)]) (hf : f_Pm_begin_b0 N a0 a1 a2 a3 w = some (r, wz)) (hR : gRep D cA B w H) (hS : va_S (gA B) s.heap H locs) : W p l e ({ frames := 5, cells := 0, slots := 0, locals := 135 } : Room) s m args below meth c H locs 0 0 (MQ below (gQi D cA B r wz) args s 0 0 (gA B)) (F0 m 0 ls []) := by
  obtain ⟨hx, hb, hml, hown, hts, hr, hlocks, hK, hBs⟩ := id C
  unfold f_Pm_begin_b0 at hf
  refine lv_aload_n hx hb d_Pm_begin_0 rfl (lv_at hl 0 rfl) ?_
  refine lv_aload_n hx hb d_Pm_begin_1 rfl (lv_at hl 1 rfl) ?_
  have ⟨h1, hf⟩ := gd_e hf
  refine g_putR hx hb hts hown hK hR hS pf_Pm_27 (fun _ => rfl) (fun _ => rfl) (fun _ => rfl) h1 d_Pm_begin_2 (fun H locs hR hS => ?_)
  refine g_nW hf hR (fun w2 hf hR => ?_)
  refine lv_aload_n hx hb d_Pm_begin_5 rfl (lv_at hl 0 rfl) ?_
  refine lv_aload_n hx hb d_Pm_begin_6 rfl (lv_at hl 2 rfl) ?_
  have ⟨h3, hf⟩ := gd_e hf
  refine g_putR hx hb hts hown hK hR hS pf_Pm_31 (fun _ => rfl) (fun _ => rfl) (fun _ => rfl) h3 d_Pm_begin_7 (fun H locs hR hS => ?_)
  refine g_nW hf hR (fun w4 hf hR => ?_)
  refine lv_aload_n hx hb d_Pm_begin_10 rfl (lv_at hl 0 rfl) ?_
  refine lv_iconst (v := 0) hx hb d_Pm_begin_11 (by decide) ?_
  have ⟨h5, hf⟩ := gd_e hf
  refine g_putI hx hb hts hown hK hR hS pf_Pm_39 (fun _ => rfl) rfl rfl h5 d_Pm_begin_12 (fun H locs hR hS => ?_)
  refine g_nW hf hR (fun w6 hf hR => ?_)
  refine lv_aload_n hx hb d_Pm_begin_15 rfl (lv_at hl 0 rfl) ?_
  refine lv_iconst (v := 0) hx hb d_Pm_begin_16 (by decide) ?_
  have ⟨h7, hf⟩ := gd_e hf
  refine g_putI hx hb hts hown hK hR hS pf_Pm_42 (fun _ => rfl) rfl rfl h7 d_Pm_begin_17 (fun H locs hR hS => ?_)
  refine g_nW hf hR (fun w8 hf hR => ?_)
  refine lv_iconst (v := 1) hx hb d_Pm_begin_20 (by decide) ?_
  refine lv_istore (lv' := [(4, .int 1), (0, .ref (B + a0)), (1, .ref (B + a1)), (2, .ref (B + a2)), (3, .int a3)]) hx hb d_Pm_begin_21 hl (by decide) rfl (fun ls hl => ?_)
  refine lv_iconst (v := 0) hx hb d_Pm_begin_23 (by decide) ?_
  refine lv_istore (lv' := [(5, .int 0), (4, .int 1), (0, .ref (B + a0)), (1, .ref (B + a1)), (2, .ref (B + a2)), (3, .int a3)]) hx hb d_Pm_begin_24 hl (by decide) rfl (fun ls hl => ?_)
  exact c_Pm_begin_l26 C a0 a1 a2 a3 1 0 w8 (lv_sub hl [2, 3, 4, 5, 1, 0] rfl) hf hR hS
theorem c_Pm_begin (l : Launch) (D : va_G) (cA : Nat → ClassId) (oc : gO) (B N : Nat) (a0 : Nat) (a1 : Nat) (a2 : Nat) (a3 : Int32) (w : gW) {wz : gW} {r : Int32} (hf : f_Pm_begin N a0 a1 a2 a3 w = some (r, wz)) : Met l y_Pm_begin (Cond.code y_Pm_begin b_Pm_begin 8 (some .int) :: lw_good) ({ frames := 5, cells := 0, slots := 0, locals := 135 } : Room) (gPre D cA oc B [.ref (B + a0), .ref (B + a1), .ref (B + a2), .int a3] w) (gQi D cA B r wz) 0 0 (gA B) := by
  refine Met.ofW (cc := b_Pm_begin) (maxL := 8) (ret := (some .int)) (by decide +kernel) rfl ?_
  intro p e s m args below meth c s₁ Bd hml hv
  obtain ⟨hargs, C, hR⟩ := gC.enter (l := l) rfl Bd hml hv
  subst hargs
  have hl := lv_entry ([.ref (B + a0), .ref (B + a1), .ref (B + a2), .int a3]) (n := 8) (Nat.le_of_ble_eq_true rfl)
  rw [lg_entry_eq]
  generalize (lg_sl ([.ref (B + a0), .ref (B + a1), .ref (B + a2), .int a3]) ++ List.replicate (8 - (lg_sl ([.ref (B + a0), .ref (B + a1), .ref (B + a2), .int a3])).length) Slot.unset).toArray = ls at hl ⊢
  have hl : lv_has ls 8 [(0, .ref (B + a0)), (1, .ref (B + a1)), (2, .ref (B + a2)), (3, .int a3)] := hl
  exact c_Pm_begin_b0 C a0 a1 a2 a3 w (lv_sub hl [0, 1, 2, 3] rfl) hf hR va_S.rf
theorem d_Pm_nothingOverflows_0 : decode b_Pm_nothingOverflows 0 = .ok (.iconst 0, 1) := by decide +kernel
theorem d_Pm_nothingOverflows_1 : decode b_Pm_nothingOverflows 1 = .ok (.istore_n 1, 1) := by decide +kernel
theorem d_Pm_nothingOverflows_2 : decode b_Pm_nothingOverflows 2 = .ok (.iload_n 1, 1) := by decide +kernel
theorem d_Pm_nothingOverflows_3 : decode b_Pm_nothingOverflows 3 = .ok (.bipush 6, 2) := by decide +kernel
theorem d_Pm_nothingOverflows_5 : decode b_Pm_nothingOverflows 5 = .ok (.if_icmp .ge 49, 3) := by decide +kernel
theorem d_Pm_nothingOverflows_8 : decode b_Pm_nothingOverflows 8 = .ok (.aload_n 0, 1) := by decide +kernel
theorem d_Pm_nothingOverflows_9 : decode b_Pm_nothingOverflows 9 = .ok (.getfield 27, 3) := by decide +kernel
theorem d_Pm_nothingOverflows_12 : decode b_Pm_nothingOverflows 12 = .ok (.getfield 99, 3) := by decide +kernel
theorem d_Pm_nothingOverflows_15 : decode b_Pm_nothingOverflows 15 = .ok (.iload_n 1, 1) := by decide +kernel
theorem d_Pm_nothingOverflows_16 : decode b_Pm_nothingOverflows 16 = .ok (.iaload, 1) := by decide +kernel
theorem d_Pm_nothingOverflows_17 : decode b_Pm_nothingOverflows 17 = .ok (.aload_n 0, 1) := by decide +kernel
theorem d_Pm_nothingOverflows_18 : decode b_Pm_nothingOverflows 18 = .ok (.getfield 15, 3) := by decide +kernel
theorem d_Pm_nothingOverflows_21 : decode b_Pm_nothingOverflows 21 = .ok (.iload_n 1, 1) := by decide +kernel
theorem d_Pm_nothingOverflows_22 : decode b_Pm_nothingOverflows 22 = .ok (.iaload, 1) := by decide +kernel
theorem d_Pm_nothingOverflows_23 : decode b_Pm_nothingOverflows 23 = .ok (.iadd, 1) := by decide +kernel
theorem d_Pm_nothingOverflows_24 : decode b_Pm_nothingOverflows 24 = .ok (.aload_n 0, 1) := by decide +kernel
theorem d_Pm_nothingOverflows_25 : decode b_Pm_nothingOverflows 25 = .ok (.getfield 18, 3) := by decide +kernel
theorem d_Pm_nothingOverflows_28 : decode b_Pm_nothingOverflows 28 = .ok (.iload_n 1, 1) := by decide +kernel
theorem d_Pm_nothingOverflows_29 : decode b_Pm_nothingOverflows 29 = .ok (.iaload, 1) := by decide +kernel
theorem d_Pm_nothingOverflows_30 : decode b_Pm_nothingOverflows 30 = .ok (.isub, 1) := by decide +kernel
theorem d_Pm_nothingOverflows_31 : decode b_Pm_nothingOverflows 31 = .ok (.bipush 99, 2) := by decide +kernel
theorem d_Pm_nothingOverflows_33 : decode b_Pm_nothingOverflows 33 = .ok (.if_icmp .gt 13, 3) := by decide +kernel
theorem d_Pm_nothingOverflows_36 : decode b_Pm_nothingOverflows 36 = .ok (.aload_n 0, 1) := by decide +kernel
theorem d_Pm_nothingOverflows_37 : decode b_Pm_nothingOverflows 37 = .ok (.iload_n 1, 1) := by decide +kernel
theorem d_Pm_nothingOverflows_38 : decode b_Pm_nothingOverflows 38 = .ok (.invokevirtual 114, 3) := by decide +kernel
theorem d_Pm_nothingOverflows_41 : decode b_Pm_nothingOverflows 41 = .ok (.bipush 99, 2) := by decide +kernel
theorem d_Pm_nothingOverflows_43 : decode b_Pm_nothingOverflows 43 = .ok (.if_icmp .le 5, 3) := by decide +kernel
theorem d_Pm_nothingOverflows_46 : decode b_Pm_nothingOverflows 46 = .ok (.iconst 0, 1) := by decide +kernel
theorem d_Pm_nothingOverflows_47 : decode b_Pm_nothingOverflows 47 = .ok (.ireturn, 1) := by decide +kernel
theorem d_Pm_nothingOverflows_48 : decode b_Pm_nothingOverflows 48 = .ok (.iinc 1 1, 3) := by decide +kernel
theorem d_Pm_nothingOverflows_51 : decode b_Pm_nothingOverflows 51 = .ok (.goto (-49), 3) := by decide +kernel
theorem d_Pm_nothingOverflows_54 : decode b_Pm_nothingOverflows 54 = .ok (.iconst 1, 1) := by decide +kernel
theorem d_Pm_nothingOverflows_55 : decode b_Pm_nothingOverflows 55 = .ok (.ireturn, 1) := by decide +kernel
set_option maxRecDepth 20000 in
theorem c_Pm_nothingOverflows_b2 {r : Int32} {wz : gW} {rec2 : Nat × Int32 × gW → Option (Int32 × gW)} (ih2 : ∀ (a0 : Nat) (a1 : Int32) (w : gW) (ls : Array Slot) (H : Heap) (locs : List Loc), rec2 (a0, a1, w) = some (r, wz) → lv_has ls 2 [(0, .ref (B + a0)), (1, .int a1)] → gRep D cA B w H → va_S (gA B) s.heap H locs → W p l e ({ frames := 2, cells := 0, slots := 0, locals := 61 } : Room) s m args below meth c H locs 0 0 (MQ below (gQi D cA B r wz) args s 0 0 (gA B)) (F0 m 2 ls [])) (C : gC p s m args meth c "RidCoppers$Payment" b_Pm_nothingOverflows 2 (some .boolean) D cA oc B) (a0 : Nat) (a1 : Int32) (w : gW) {ls : Array Slot} {H : Heap} {locs : List Loc} (hl : lv_has ls 2 [(0, .ref (B + a0)), (1, .int a1)]) (hf : f_Pm_nothingOverflows_b2 N rec2 a0 a1 w = some (r, wz)) (hR : gRep D cA B w H) (hS : va_S (gA B) s.heap H locs) : W p l e ({ frames := 2, cells := 0, slots := 0, locals := 61 } : Room) s m args below meth c H locs 0 0 (MQ below (gQi D cA B r wz) args s 0 0 (gA B)) (F0 m 2 ls []) := by
  obtain ⟨hx, hb, hml, hown, hts, hr, hlocks, hK, hBs⟩ := id C
  unfold f_Pm_nothingOverflows_b2 at hf
  refine lv_iload_n hx hb d_Pm_nothingOverflows_2 rfl (lv_at hl 1 rfl) ?_
  refine lv_bipush (v := 6) hx hb d_Pm_nothingOverflows_3 (by decide) ?_
  refine lv_icmp_ge (tgt := 54) hx hb d_Pm_nothingOverflows_5 (by decide) (fun hc => ?_) (fun hc => ?_)
  · have hf := cd_t hc hf
    refine lv_iconst (v := 1) hx hb d_Pm_nothingOverflows_54 (by decide) ?_
    exact g_iret hx hb hr hlocks hR hS hf rfl d_Pm_nothingOverflows_55
  have hf := cd_f hc hf
  refine lv_aload_n hx hb d_Pm_nothingOverflows_8 rfl (lv_at hl 0 rfl) ?_
  have ⟨h1, hf⟩ := gd_e hf
  have ⟨x2, h3, hf⟩ := rr_e hf
  refine g_getR hx hb hts hown hK hR fl_Pm_27 (fun _ => rfl) h1 h3 d_Pm_nothingOverflows_9 ?_
  have ⟨h4, hf⟩ := gd_e hf
  have ⟨x5, h6, hf⟩ := rr_e hf
  refine g_getR hx hb hts hown hK hR fl_Pm_99 (fun _ => rfl) h4 h6 d_Pm_nothingOverflows_12 ?_
  refine lv_iload_n hx hb d_Pm_nothingOverflows_15 rfl (lv_at hl 1 rfl) ?_
  have ⟨h7, hf⟩ := gd_e hf
  have ⟨h8, hf⟩ := gd_e hf
  refine g_iald hx hb hK hR h7 h8 d_Pm_nothingOverflows_16 ?_
  refine g_nI hf (fun x9 hf => ?_)
  refine lv_aload_n hx hb d_Pm_nothingOverflows_17 rfl (lv_at hl 0 rfl) ?_
  have ⟨x10, h11, hf⟩ := rr_e hf
  refine g_getR hx hb hts hown hK hR fl_Pm_15 (fun _ => rfl) h1 h11 d_Pm_nothingOverflows_18 ?_
  refine lv_iload_n hx hb d_Pm_nothingOverflows_21 rfl (lv_at hl 1 rfl) ?_
  have ⟨h12, hf⟩ := gd_e hf
  have ⟨h13, hf⟩ := gd_e hf
  refine g_iald hx hb hK hR h12 h13 d_Pm_nothingOverflows_22 ?_
  refine g_nI hf (fun x14 hf => ?_)
  refine lv_iadd hx hb d_Pm_nothingOverflows_23 ?_
  refine g_nI hf (fun x15 hf => ?_)
  refine lv_aload_n hx hb d_Pm_nothingOverflows_24 rfl (lv_at hl 0 rfl) ?_
  have ⟨x16, h17, hf⟩ := rr_e hf
  refine g_getR hx hb hts hown hK hR fl_Pm_18 (fun _ => rfl) h1 h17 d_Pm_nothingOverflows_25 ?_
  refine lv_iload_n hx hb d_Pm_nothingOverflows_28 rfl (lv_at hl 1 rfl) ?_
  have ⟨h18, hf⟩ := gd_e hf
  have ⟨h19, hf⟩ := gd_e hf
  refine g_iald hx hb hK hR h18 h19 d_Pm_nothingOverflows_29 ?_
  refine g_nI hf (fun x20 hf => ?_)
  refine lv_isub hx hb d_Pm_nothingOverflows_30 ?_
  refine g_nI hf (fun x21 hf => ?_)
  refine lv_bipush (v := 99) hx hb d_Pm_nothingOverflows_31 (by decide) ?_
  refine lv_icmp_gt (tgt := 46) hx hb d_Pm_nothingOverflows_33 (by decide) (fun hc => ?_) (fun hc => ?_)
  · have hf := cd_t hc hf
    refine lv_iconst (v := 0) hx hb d_Pm_nothingOverflows_46 (by decide) ?_
    exact g_iret hx hb hr hlocks hR hS hf rfl d_Pm_nothingOverflows_47
  have hf := cd_f hc hf
  refine lv_aload_n hx hb d_Pm_nothingOverflows_36 rfl (lv_at hl 0 rfl) ?_
  refine lv_iload_n hx hb d_Pm_nothingOverflows_37 rfl (lv_at hl 1 rfl) ?_
  have ⟨x22, w23, h24, hf⟩ := kl_e hf
  refine g_ki0 (g_rV (As := [.int a1]) (rest := []) hx hb hml hown hts hK hR hS (c_Pm_purseBehind l D cA oc B N a0 a1 w h24) I_Pm_purseBehind m_678 mp_20 (gRecv hK hR (ci := 10) rfl h1) rfl rfl (Nat.le_of_ble_eq_true rfl) hl.1 ⟨Nat.le_of_ble_eq_true rfl, Nat.le_of_ble_eq_true rfl⟩ ⟨Nat.le_of_ble_eq_true rfl, Nat.le_of_ble_eq_true rfl⟩ d_Pm_nothingOverflows_38) hS (fun H locs hR hS => ?_)
  refine lv_bipush (v := 99) hx hb d_Pm_nothingOverflows_41 (by decide) ?_
  refine lv_icmp_le (tgt := 48) hx hb d_Pm_nothingOverflows_43 (by decide) (fun hc => ?_) (fun hc => ?_)
  · have hf := cd_t hc hf
    refine g_iinc (lv' := fun x25 => [(1, .int x25), (0, .ref (B + a0))]) hf hx hb d_Pm_nothingOverflows_48 hl (k := 1) rfl (by decide) (by decide) (fun _ => rfl) (fun x25 ls hf hl => ?_)
    refine lv_goto (tgt := 2) hx hb d_Pm_nothingOverflows_51 (by decide) ?_
    exact ih2 a0 x25 w23 _ _ _ hf (lv_sub hl [1, 0] rfl) hR hS
  have hf := cd_f hc hf
  refine lv_iconst (v := 0) hx hb d_Pm_nothingOverflows_46 (by decide) ?_
  exact g_iret hx hb hr hlocks hR hS hf rfl d_Pm_nothingOverflows_47
theorem c_Pm_nothingOverflows_l2 {r : Int32} {wz : gW} (C : gC p s m args meth c "RidCoppers$Payment" b_Pm_nothingOverflows 2 (some .boolean) D cA oc B) (a0 : Nat) (a1 : Int32) (w : gW) {ls : Array Slot} {H : Heap} {locs : List Loc} (hl : lv_has ls 2 [(0, .ref (B + a0)), (1, .int a1)]) (hf : f_Pm_nothingOverflows_l2 N a0 a1 w = some (r, wz)) (hR : gRep D cA B w H) (hS : va_S (gA B) s.heap H locs) : W p l e ({ frames := 2, cells := 0, slots := 0, locals := 61 } : Room) s m args below meth c H locs 0 0 (MQ below (gQi D cA B r wz) args s 0 0 (gA B)) (F0 m 2 ls []) := by
  unfold f_Pm_nothingOverflows_l2 at hf
  suffices hh : ∀ n : Nat, ∀ (a0 : Nat) (a1 : Int32) (w : gW) (ls : Array Slot) (H : Heap) (locs : List Loc), itr (fun rec (q : Nat × Int32 × gW) => f_Pm_nothingOverflows_b2 N rec q.1 q.2.1 q.2.2) n (a0, a1, w) = some (r, wz) → lv_has ls 2 [(0, .ref (B + a0)), (1, .int a1)] → gRep D cA B w H → va_S (gA B) s.heap H locs → W p l e ({ frames := 2, cells := 0, slots := 0, locals := 61 } : Room) s m args below meth c H locs 0 0 (MQ below (gQi D cA B r wz) args s 0 0 (gA B)) (F0 m 2 ls []) from hh N a0 a1 w ls H locs hf hl hR hS
  intro n
  induction n with
  | zero => intro a0 a1 w ls H locs hf; cases hf
  | succ n ihn =>
    intro a0 a1 w ls H locs hf hl hR hS
    exact c_Pm_nothingOverflows_b2 (N := N) ihn C a0 a1 w hl ((itr_s _ _ _).symm.trans hf) hR hS
set_option maxRecDepth 20000 in
theorem c_Pm_nothingOverflows_b0 {r : Int32} {wz : gW} (C : gC p s m args meth c "RidCoppers$Payment" b_Pm_nothingOverflows 2 (some .boolean) D cA oc B) (a0 : Nat) (w : gW) {ls : Array Slot} {H : Heap} {locs : List Loc} (hl : lv_has ls 2 [(0, .ref (B + a0))]) (hf : f_Pm_nothingOverflows_b0 N a0 w = some (r, wz)) (hR : gRep D cA B w H) (hS : va_S (gA B) s.heap H locs) : W p l e ({ frames := 2, cells := 0, slots := 0, locals := 61 } : Room) s m args below meth c H locs 0 0 (MQ below (gQi D cA B r wz) args s 0 0 (gA B)) (F0 m 0 ls []) := by
  obtain ⟨hx, hb, hml, hown, hts, hr, hlocks, hK, hBs⟩ := id C
  unfold f_Pm_nothingOverflows_b0 at hf
  refine lv_iconst (v := 0) hx hb d_Pm_nothingOverflows_0 (by decide) ?_
  refine lv_istore_n (lv' := [(1, .int 0), (0, .ref (B + a0))]) hx hb d_Pm_nothingOverflows_1 rfl hl (by decide) rfl (fun ls hl => ?_)
  exact c_Pm_nothingOverflows_l2 C a0 0 w (lv_sub hl [1, 0] rfl) hf hR hS
theorem c_Pm_nothingOverflows (l : Launch) (D : va_G) (cA : Nat → ClassId) (oc : gO) (B N : Nat) (a0 : Nat) (w : gW) {wz : gW} {r : Int32} (hf : f_Pm_nothingOverflows N a0 w = some (r, wz)) : Met l y_Pm_nothingOverflows (Cond.code y_Pm_nothingOverflows b_Pm_nothingOverflows 2 (some .boolean) :: lw_good) ({ frames := 2, cells := 0, slots := 0, locals := 61 } : Room) (gPre D cA oc B [.ref (B + a0)] w) (gQi D cA B r wz) 0 0 (gA B) := by
  refine Met.ofW (cc := b_Pm_nothingOverflows) (maxL := 2) (ret := (some .boolean)) (by decide +kernel) rfl ?_
  intro p e s m args below meth c s₁ Bd hml hv
  obtain ⟨hargs, C, hR⟩ := gC.enter (l := l) rfl Bd hml hv
  subst hargs
  have hl := lv_entry ([.ref (B + a0)]) (n := 2) (Nat.le_of_ble_eq_true rfl)
  rw [lg_entry_eq]
  generalize (lg_sl ([.ref (B + a0)]) ++ List.replicate (2 - (lg_sl ([.ref (B + a0)])).length) Slot.unset).toArray = ls at hl ⊢
  have hl : lv_has ls 2 [(0, .ref (B + a0))] := hl
  exact c_Pm_nothingOverflows_b0 C a0 w (lv_sub hl [0] rfl) hf hR va_S.rf
theorem d_Pm_pays_0 : decode b_Pm_pays 0 = .ok (.aload_n 0, 1) := by decide +kernel
theorem d_Pm_pays_1 : decode b_Pm_pays 1 = .ok (.getfield 39, 3) := by decide +kernel
theorem d_Pm_pays_4 : decode b_Pm_pays 4 = .ok (.aload_n 0, 1) := by decide +kernel
theorem d_Pm_pays_5 : decode b_Pm_pays 5 = .ok (.getfield 35, 3) := by decide +kernel
theorem d_Pm_pays_8 : decode b_Pm_pays 8 = .ok (.isub, 1) := by decide +kernel
theorem d_Pm_pays_9 : decode b_Pm_pays 9 = .ok (.istore_n 1, 1) := by decide +kernel
theorem d_Pm_pays_10 : decode b_Pm_pays 10 = .ok (.iload_n 1, 1) := by decide +kernel
theorem d_Pm_pays_11 : decode b_Pm_pays 11 = .ok (.ifCond .ge 5, 3) := by decide +kernel
theorem d_Pm_pays_14 : decode b_Pm_pays 14 = .ok (.iconst 0, 1) := by decide +kernel
theorem d_Pm_pays_15 : decode b_Pm_pays 15 = .ok (.ireturn, 1) := by decide +kernel
theorem d_Pm_pays_16 : decode b_Pm_pays 16 = .ok (.iconst 5, 1) := by decide +kernel
theorem d_Pm_pays_17 : decode b_Pm_pays 17 = .ok (.istore_n 2, 1) := by decide +kernel
theorem d_Pm_pays_18 : decode b_Pm_pays 18 = .ok (.iload_n 2, 1) := by decide +kernel
theorem d_Pm_pays_19 : decode b_Pm_pays 19 = .ok (.ifCond .lt 56, 3) := by decide +kernel
theorem d_Pm_pays_22 : decode b_Pm_pays 22 = .ok (.aload_n 0, 1) := by decide +kernel
theorem d_Pm_pays_23 : decode b_Pm_pays 23 = .ok (.getfield 18, 3) := by decide +kernel
theorem d_Pm_pays_26 : decode b_Pm_pays 26 = .ok (.iload_n 2, 1) := by decide +kernel
theorem d_Pm_pays_27 : decode b_Pm_pays 27 = .ok (.aload_n 0, 1) := by decide +kernel
theorem d_Pm_pays_28 : decode b_Pm_pays 28 = .ok (.getfield 27, 3) := by decide +kernel
theorem d_Pm_pays_31 : decode b_Pm_pays 31 = .ok (.getfield 99, 3) := by decide +kernel
theorem d_Pm_pays_34 : decode b_Pm_pays 34 = .ok (.iload_n 2, 1) := by decide +kernel
theorem d_Pm_pays_35 : decode b_Pm_pays 35 = .ok (.iaload, 1) := by decide +kernel
theorem d_Pm_pays_36 : decode b_Pm_pays 36 = .ok (.aload_n 0, 1) := by decide +kernel
theorem d_Pm_pays_37 : decode b_Pm_pays 37 = .ok (.getfield 15, 3) := by decide +kernel
theorem d_Pm_pays_40 : decode b_Pm_pays 40 = .ok (.iload_n 2, 1) := by decide +kernel
theorem d_Pm_pays_41 : decode b_Pm_pays 41 = .ok (.iaload, 1) := by decide +kernel
theorem d_Pm_pays_42 : decode b_Pm_pays 42 = .ok (.iadd, 1) := by decide +kernel
theorem d_Pm_pays_43 : decode b_Pm_pays 43 = .ok (.iload_n 1, 1) := by decide +kernel
theorem d_Pm_pays_44 : decode b_Pm_pays 44 = .ok (.getstatic 140, 3) := by decide +kernel
theorem d_Pm_pays_47 : decode b_Pm_pays 47 = .ok (.iload_n 2, 1) := by decide +kernel
theorem d_Pm_pays_48 : decode b_Pm_pays 48 = .ok (.iaload, 1) := by decide +kernel
theorem d_Pm_pays_49 : decode b_Pm_pays 49 = .ok (.idiv, 1) := by decide +kernel
theorem d_Pm_pays_50 : decode b_Pm_pays 50 = .ok (.invokestatic 84, 3) := by decide +kernel
theorem d_Pm_pays_53 : decode b_Pm_pays 53 = .ok (.iastore, 1) := by decide +kernel
theorem d_Pm_pays_54 : decode b_Pm_pays 54 = .ok (.iload_n 1, 1) := by decide +kernel
theorem d_Pm_pays_55 : decode b_Pm_pays 55 = .ok (.aload_n 0, 1) := by decide +kernel
theorem d_Pm_pays_56 : decode b_Pm_pays 56 = .ok (.getfield 18, 3) := by decide +kernel
theorem d_Pm_pays_59 : decode b_Pm_pays 59 = .ok (.iload_n 2, 1) := by decide +kernel
theorem d_Pm_pays_60 : decode b_Pm_pays 60 = .ok (.iaload, 1) := by decide +kernel
theorem d_Pm_pays_61 : decode b_Pm_pays 61 = .ok (.getstatic 140, 3) := by decide +kernel
theorem d_Pm_pays_64 : decode b_Pm_pays 64 = .ok (.iload_n 2, 1) := by decide +kernel
theorem d_Pm_pays_65 : decode b_Pm_pays 65 = .ok (.iaload, 1) := by decide +kernel
theorem d_Pm_pays_66 : decode b_Pm_pays 66 = .ok (.imul, 1) := by decide +kernel
theorem d_Pm_pays_67 : decode b_Pm_pays 67 = .ok (.isub, 1) := by decide +kernel
theorem d_Pm_pays_68 : decode b_Pm_pays 68 = .ok (.istore_n 1, 1) := by decide +kernel
theorem d_Pm_pays_69 : decode b_Pm_pays 69 = .ok (.iinc 2 (-1), 3) := by decide +kernel
theorem d_Pm_pays_72 : decode b_Pm_pays 72 = .ok (.goto (-54), 3) := by decide +kernel
theorem d_Pm_pays_75 : decode b_Pm_pays 75 = .ok (.iload_n 1, 1) := by decide +kernel
theorem d_Pm_pays_76 : decode b_Pm_pays 76 = .ok (.ifCond .ne 14, 3) := by decide +kernel
theorem d_Pm_pays_79 : decode b_Pm_pays 79 = .ok (.aload_n 0, 1) := by decide +kernel
theorem d_Pm_pays_80 : decode b_Pm_pays 80 = .ok (.invokevirtual 143, 3) := by decide +kernel
theorem d_Pm_pays_83 : decode b_Pm_pays 83 = .ok (.ifCond .eq 7, 3) := by decide +kernel
theorem d_Pm_pays_86 : decode b_Pm_pays 86 = .ok (.iconst 1, 1) := by decide +kernel
theorem d_Pm_pays_87 : decode b_Pm_pays 87 = .ok (.goto 4, 3) := by decide +kernel
theorem d_Pm_pays_90 : decode b_Pm_pays 90 = .ok (.iconst 0, 1) := by decide +kernel
theorem d_Pm_pays_91 : decode b_Pm_pays 91 = .ok (.ireturn, 1) := by decide +kernel
set_option maxRecDepth 20000 in
theorem c_Pm_pays_b18 {r : Int32} {wz : gW} {rec18 : Nat × Int32 × Int32 × gW → Option (Int32 × gW)} (ih18 : ∀ (a0 : Nat) (a1 : Int32) (a2 : Int32) (w : gW) (ls : Array Slot) (H : Heap) (locs : List Loc), rec18 (a0, a1, a2, w) = some (r, wz) → lv_has ls 3 [(0, .ref (B + a0)), (1, .int a1), (2, .int a2)] → gRep D cA B w H → va_S (gA B) s.heap H locs → W p l e ({ frames := 3, cells := 0, slots := 0, locals := 82 } : Room) s m args below meth c H locs 0 0 (MQ below (gQi D cA B r wz) args s 0 0 (gA B)) (F0 m 18 ls [])) (C : gC p s m args meth c "RidCoppers$Payment" b_Pm_pays 3 (some .boolean) D cA oc B) (a0 : Nat) (a1 : Int32) (a2 : Int32) (w : gW) {ls : Array Slot} {H : Heap} {locs : List Loc} (hl : lv_has ls 3 [(0, .ref (B + a0)), (1, .int a1), (2, .int a2)]) (hf : f_Pm_pays_b18 N rec18 a0 a1 a2 w = some (r, wz)) (hR : gRep D cA B w H) (hS : va_S (gA B) s.heap H locs) : W p l e ({ frames := 3, cells := 0, slots := 0, locals := 82 } : Room) s m args below meth c H locs 0 0 (MQ below (gQi D cA B r wz) args s 0 0 (gA B)) (F0 m 18 ls []) := by
  obtain ⟨hx, hb, hml, hown, hts, hr, hlocks, hK, hBs⟩ := id C
  unfold f_Pm_pays_b18 at hf
  refine lv_iload_n hx hb d_Pm_pays_18 rfl (lv_at hl 2 rfl) ?_
  refine lv_if_lt (tgt := 75) hx hb d_Pm_pays_19 (by decide) (fun hc => ?_) (fun hc => ?_)
  · have hf := cd_t hc hf
    refine lv_iload_n hx hb d_Pm_pays_75 rfl (lv_at hl 1 rfl) ?_
    refine lv_if_ne (tgt := 90) hx hb d_Pm_pays_76 (by decide) (fun hc => ?_) (fun hc => ?_)
    · have hf := cd_f hc hf
      refine lv_iconst (v := 0) hx hb d_Pm_pays_90 (by decide) ?_
      exact g_iret hx hb hr hlocks hR hS hf rfl d_Pm_pays_91
    have hf := cd_t hc hf
    refine lv_aload_n hx hb d_Pm_pays_79 rfl (lv_at hl 0 rfl) ?_
    have ⟨h8, hf⟩ := gd_e hf
    have ⟨x5, w6, h7, hf⟩ := kl_e hf
    refine g_ki0 (g_rV (As := []) (rest := []) hx hb hml hown hts hK hR hS (c_Pm_nothingOverflows l D cA oc B N a0 w h7) I_Pm_nothingOverflows m_700 mp_22 (gRecv hK hR (ci := 10) rfl h8) rfl rfl (Nat.le_of_ble_eq_true rfl) hl.1 ⟨Nat.le_of_ble_eq_true rfl, Nat.le_of_ble_eq_true rfl⟩ ⟨Nat.le_of_ble_eq_true rfl, Nat.le_of_ble_eq_true rfl⟩ d_Pm_pays_80) hS (fun H locs hR hS => ?_)
    refine lv_if_eq (tgt := 90) hx hb d_Pm_pays_83 (by decide) (fun hc => ?_) (fun hc => ?_)
    · have hf := cd_t hc hf
      refine lv_iconst (v := 0) hx hb d_Pm_pays_90 (by decide) ?_
      exact g_iret hx hb hr hlocks hR hS hf rfl d_Pm_pays_91
    have hf := cd_f hc hf
    refine lv_iconst (v := 1) hx hb d_Pm_pays_86 (by decide) ?_
    refine lv_goto (tgt := 91) hx hb d_Pm_pays_87 (by decide) ?_
    exact g_iret hx hb hr hlocks hR hS hf rfl d_Pm_pays_91
  have hf := cd_f hc hf
  refine lv_aload_n hx hb d_Pm_pays_22 rfl (lv_at hl 0 rfl) ?_
  have ⟨h9, hf⟩ := gd_e hf
  have ⟨x10, h11, hf⟩ := rr_e hf
  refine g_getR hx hb hts hown hK hR fl_Pm_18 (fun _ => rfl) h9 h11 d_Pm_pays_23 ?_
  refine lv_iload_n hx hb d_Pm_pays_26 rfl (lv_at hl 2 rfl) ?_
  refine lv_aload_n hx hb d_Pm_pays_27 rfl (lv_at hl 0 rfl) ?_
  have ⟨x12, h13, hf⟩ := rr_e hf
  refine g_getR hx hb hts hown hK hR fl_Pm_27 (fun _ => rfl) h9 h13 d_Pm_pays_28 ?_
  have ⟨h14, hf⟩ := gd_e hf
  have ⟨x15, h16, hf⟩ := rr_e hf
  refine g_getR hx hb hts hown hK hR fl_Pm_99 (fun _ => rfl) h14 h16 d_Pm_pays_31 ?_
  refine lv_iload_n hx hb d_Pm_pays_34 rfl (lv_at hl 2 rfl) ?_
  have ⟨h17, hf⟩ := gd_e hf
  have ⟨h18, hf⟩ := gd_e hf
  refine g_iald hx hb hK hR h17 h18 d_Pm_pays_35 ?_
  refine g_nI hf (fun x19 hf => ?_)
  refine lv_aload_n hx hb d_Pm_pays_36 rfl (lv_at hl 0 rfl) ?_
  have ⟨x20, h21, hf⟩ := rr_e hf
  refine g_getR hx hb hts hown hK hR fl_Pm_15 (fun _ => rfl) h9 h21 d_Pm_pays_37 ?_
  refine lv_iload_n hx hb d_Pm_pays_40 rfl (lv_at hl 2 rfl) ?_
  have ⟨h22, hf⟩ := gd_e hf
  have ⟨h23, hf⟩ := gd_e hf
  refine g_iald hx hb hK hR h22 h23 d_Pm_pays_41 ?_
  refine g_nI hf (fun x24 hf => ?_)
  refine lv_iadd hx hb d_Pm_pays_42 ?_
  refine g_nI hf (fun x25 hf => ?_)
  refine lv_iload_n hx hb d_Pm_pays_43 rfl (lv_at hl 1 rfl) ?_
  refine g_worthN hx hb hown hK hS hK.2.2.2.1.2.1 d_Pm_pays_44 ?_
  refine lv_iload_n hx hb d_Pm_pays_47 rfl (lv_at hl 2 rfl) ?_
  have ⟨h26, hf⟩ := gd_e hf
  refine g_wld hx hb hK hS h26 d_Pm_pays_48 ?_
  refine g_nI hf (fun x27 hf => ?_)
  have ⟨h28, hf⟩ := gd_e hf
  refine lv_idiv hx hb d_Pm_pays_49 h28 ?_
  refine g_nI hf (fun x29 hf => ?_)
  refine va_mmin hx hb (hml.trans hl.1.symm) hown (hts _ m_642) (hts _ m_553) (hts _ m_18) (hts _ m_554) (Nat.le_of_ble_eq_true rfl) (Nat.le_of_ble_eq_true rfl) (Nat.zero_le _) (Nat.zero_le _) d_Pm_pays_50 ?_
  refine g_nI hf (fun x30 hf => ?_)
  have ⟨h31, hf⟩ := gd_e hf
  have ⟨h32, hf⟩ := gd_e hf
  refine g_iast hx hb hK hR hS h31 h32 d_Pm_pays_53 (fun H locs hR hS => ?_)
  refine g_nW hf hR (fun w33 hf hR => ?_)
  refine lv_iload_n hx hb d_Pm_pays_54 rfl (lv_at hl 1 rfl) ?_
  refine lv_aload_n hx hb d_Pm_pays_55 rfl (lv_at hl 0 rfl) ?_
  have ⟨h34, hf⟩ := gd_e hf
  have ⟨x35, h36, hf⟩ := rr_e hf
  refine g_getR hx hb hts hown hK hR fl_Pm_18 (fun _ => rfl) h34 h36 d_Pm_pays_56 ?_
  refine lv_iload_n hx hb d_Pm_pays_59 rfl (lv_at hl 2 rfl) ?_
  have ⟨h37, hf⟩ := gd_e hf
  have ⟨h38, hf⟩ := gd_e hf
  refine g_iald hx hb hK hR h37 h38 d_Pm_pays_60 ?_
  refine g_nI hf (fun x39 hf => ?_)
  refine g_worthN hx hb hown hK hS hK.2.2.2.1.2.1 d_Pm_pays_61 ?_
  refine lv_iload_n hx hb d_Pm_pays_64 rfl (lv_at hl 2 rfl) ?_
  have ⟨h40, hf⟩ := gd_e hf
  refine g_wld hx hb hK hS h40 d_Pm_pays_65 ?_
  refine g_nI hf (fun x41 hf => ?_)
  refine lv_imul hx hb d_Pm_pays_66 ?_
  refine g_nI hf (fun x42 hf => ?_)
  refine lv_isub hx hb d_Pm_pays_67 ?_
  refine g_nI hf (fun x43 hf => ?_)
  refine lv_istore_n (lv' := [(1, .int x43), (0, .ref (B + a0)), (2, .int a2)]) hx hb d_Pm_pays_68 rfl hl (by decide) rfl (fun ls hl => ?_)
  refine g_iinc (lv' := fun x44 => [(2, .int x44), (1, .int x43), (0, .ref (B + a0))]) hf hx hb d_Pm_pays_69 hl (k := 2) rfl (by decide) (by decide) (fun _ => rfl) (fun x44 ls hf hl => ?_)
  refine lv_goto (tgt := 18) hx hb d_Pm_pays_72 (by decide) ?_
  exact ih18 a0 x43 x44 w33 _ _ _ hf (lv_sub hl [2, 1, 0] rfl) hR hS
theorem c_Pm_pays_l18 {r : Int32} {wz : gW} (C : gC p s m args meth c "RidCoppers$Payment" b_Pm_pays 3 (some .boolean) D cA oc B) (a0 : Nat) (a1 : Int32) (a2 : Int32) (w : gW) {ls : Array Slot} {H : Heap} {locs : List Loc} (hl : lv_has ls 3 [(0, .ref (B + a0)), (1, .int a1), (2, .int a2)]) (hf : f_Pm_pays_l18 N a0 a1 a2 w = some (r, wz)) (hR : gRep D cA B w H) (hS : va_S (gA B) s.heap H locs) : W p l e ({ frames := 3, cells := 0, slots := 0, locals := 82 } : Room) s m args below meth c H locs 0 0 (MQ below (gQi D cA B r wz) args s 0 0 (gA B)) (F0 m 18 ls []) := by
  unfold f_Pm_pays_l18 at hf
  suffices hh : ∀ n : Nat, ∀ (a0 : Nat) (a1 : Int32) (a2 : Int32) (w : gW) (ls : Array Slot) (H : Heap) (locs : List Loc), itr (fun rec (q : Nat × Int32 × Int32 × gW) => f_Pm_pays_b18 N rec q.1 q.2.1 q.2.2.1 q.2.2.2) n (a0, a1, a2, w) = some (r, wz) → lv_has ls 3 [(0, .ref (B + a0)), (1, .int a1), (2, .int a2)] → gRep D cA B w H → va_S (gA B) s.heap H locs → W p l e ({ frames := 3, cells := 0, slots := 0, locals := 82 } : Room) s m args below meth c H locs 0 0 (MQ below (gQi D cA B r wz) args s 0 0 (gA B)) (F0 m 18 ls []) from hh N a0 a1 a2 w ls H locs hf hl hR hS
  intro n
  induction n with
  | zero => intro a0 a1 a2 w ls H locs hf; cases hf
  | succ n ihn =>
    intro a0 a1 a2 w ls H locs hf hl hR hS
    exact c_Pm_pays_b18 (N := N) ihn C a0 a1 a2 w hl ((itr_s _ _ _).symm.trans hf) hR hS
set_option maxRecDepth 20000 in
theorem c_Pm_pays_b0 {r : Int32} {wz : gW} (C : gC p s m args meth c "RidCoppers$Payment" b_Pm_pays 3 (some .boolean) D cA oc B) (a0 : Nat) (w : gW) {ls : Array Slot} {H : Heap} {locs : List Loc} (hl : lv_has ls 3 [(0, .ref (B + a0))]) (hf : f_Pm_pays_b0 N a0 w = some (r, wz)) (hR : gRep D cA B w H) (hS : va_S (gA B) s.heap H locs) : W p l e ({ frames := 3, cells := 0, slots := 0, locals := 82 } : Room) s m args below meth c H locs 0 0 (MQ below (gQi D cA B r wz) args s 0 0 (gA B)) (F0 m 0 ls []) := by
  obtain ⟨hx, hb, hml, hown, hts, hr, hlocks, hK, hBs⟩ := id C
  unfold f_Pm_pays_b0 at hf
  refine lv_aload_n hx hb d_Pm_pays_0 rfl (lv_at hl 0 rfl) ?_
  have ⟨h1, hf⟩ := gd_e hf
  refine g_getI hx hb hts hown hK hR fl_Pm_39 (fun _ => rfl) h1 d_Pm_pays_1 ?_
  refine g_nI hf (fun x2 hf => ?_)
  refine lv_aload_n hx hb d_Pm_pays_4 rfl (lv_at hl 0 rfl) ?_
  refine g_getI hx hb hts hown hK hR fl_Pm_35 (fun _ => rfl) h1 d_Pm_pays_5 ?_
  refine g_nI hf (fun x3 hf => ?_)
  refine lv_isub hx hb d_Pm_pays_8 ?_
  refine g_nI hf (fun x4 hf => ?_)
  refine lv_istore_n (lv' := [(1, .int x4), (0, .ref (B + a0))]) hx hb d_Pm_pays_9 rfl hl (by decide) rfl (fun ls hl => ?_)
  refine lv_iload_n hx hb d_Pm_pays_10 rfl (lv_at hl 0 rfl) ?_
  refine lv_if_ge (tgt := 16) hx hb d_Pm_pays_11 (by decide) (fun hc => ?_) (fun hc => ?_)
  · have hf := cd_t hc hf
    refine lv_iconst (v := 5) hx hb d_Pm_pays_16 (by decide) ?_
    refine lv_istore_n (lv' := [(2, .int 5), (1, .int x4), (0, .ref (B + a0))]) hx hb d_Pm_pays_17 rfl hl (by decide) rfl (fun ls hl => ?_)
    exact c_Pm_pays_l18 C a0 x4 5 w (lv_sub hl [2, 1, 0] rfl) hf hR hS
  have hf := cd_f hc hf
  refine lv_iconst (v := 0) hx hb d_Pm_pays_14 (by decide) ?_
  exact g_iret hx hb hr hlocks hR hS hf rfl d_Pm_pays_15
theorem c_Pm_pays (l : Launch) (D : va_G) (cA : Nat → ClassId) (oc : gO) (B N : Nat) (a0 : Nat) (w : gW) {wz : gW} {r : Int32} (hf : f_Pm_pays N a0 w = some (r, wz)) : Met l y_Pm_pays (Cond.code y_Pm_pays b_Pm_pays 3 (some .boolean) :: lw_good) ({ frames := 3, cells := 0, slots := 0, locals := 82 } : Room) (gPre D cA oc B [.ref (B + a0)] w) (gQi D cA B r wz) 0 0 (gA B) := by
  refine Met.ofW (cc := b_Pm_pays) (maxL := 3) (ret := (some .boolean)) (by decide +kernel) rfl ?_
  intro p e s m args below meth c s₁ Bd hml hv
  obtain ⟨hargs, C, hR⟩ := gC.enter (l := l) rfl Bd hml hv
  subst hargs
  have hl := lv_entry ([.ref (B + a0)]) (n := 3) (Nat.le_of_ble_eq_true rfl)
  rw [lg_entry_eq]
  generalize (lg_sl ([.ref (B + a0)]) ++ List.replicate (3 - (lg_sl ([.ref (B + a0)])).length) Slot.unset).toArray = ls at hl ⊢
  have hl : lv_has ls 3 [(0, .ref (B + a0))] := hl
  exact c_Pm_pays_b0 C a0 w (lv_sub hl [0] rfl) hf hR va_S.rf
theorem d_Pm_standAtBest_0 : decode b_Pm_standAtBest 0 = .ok (.aload_n 0, 1) := by decide +kernel
theorem d_Pm_standAtBest_1 : decode b_Pm_standAtBest 1 = .ok (.iconst 0, 1) := by decide +kernel
theorem d_Pm_standAtBest_2 : decode b_Pm_standAtBest 2 = .ok (.putfield 39, 3) := by decide +kernel
theorem d_Pm_standAtBest_5 : decode b_Pm_standAtBest 5 = .ok (.aload_n 0, 1) := by decide +kernel
theorem d_Pm_standAtBest_6 : decode b_Pm_standAtBest 6 = .ok (.iconst 0, 1) := by decide +kernel
theorem d_Pm_standAtBest_7 : decode b_Pm_standAtBest 7 = .ok (.putfield 42, 3) := by decide +kernel
theorem d_Pm_standAtBest_10 : decode b_Pm_standAtBest 10 = .ok (.iconst 0, 1) := by decide +kernel
theorem d_Pm_standAtBest_11 : decode b_Pm_standAtBest 11 = .ok (.istore_n 1, 1) := by decide +kernel
theorem d_Pm_standAtBest_12 : decode b_Pm_standAtBest 12 = .ok (.iload_n 1, 1) := by decide +kernel
theorem d_Pm_standAtBest_13 : decode b_Pm_standAtBest 13 = .ok (.bipush 6, 2) := by decide +kernel
theorem d_Pm_standAtBest_15 : decode b_Pm_standAtBest 15 = .ok (.if_icmp .ge 69, 3) := by decide +kernel
theorem d_Pm_standAtBest_18 : decode b_Pm_standAtBest 18 = .ok (.aload_n 0, 1) := by decide +kernel
theorem d_Pm_standAtBest_19 : decode b_Pm_standAtBest 19 = .ok (.getfield 15, 3) := by decide +kernel
theorem d_Pm_standAtBest_22 : decode b_Pm_standAtBest 22 = .ok (.iload_n 1, 1) := by decide +kernel
theorem d_Pm_standAtBest_23 : decode b_Pm_standAtBest 23 = .ok (.aload_n 0, 1) := by decide +kernel
theorem d_Pm_standAtBest_24 : decode b_Pm_standAtBest 24 = .ok (.getfield 21, 3) := by decide +kernel
theorem d_Pm_standAtBest_27 : decode b_Pm_standAtBest 27 = .ok (.iload_n 1, 1) := by decide +kernel
theorem d_Pm_standAtBest_28 : decode b_Pm_standAtBest 28 = .ok (.iaload, 1) := by decide +kernel
theorem d_Pm_standAtBest_29 : decode b_Pm_standAtBest 29 = .ok (.iastore, 1) := by decide +kernel
theorem d_Pm_standAtBest_30 : decode b_Pm_standAtBest 30 = .ok (.aload_n 0, 1) := by decide +kernel
theorem d_Pm_standAtBest_31 : decode b_Pm_standAtBest 31 = .ok (.getfield 18, 3) := by decide +kernel
theorem d_Pm_standAtBest_34 : decode b_Pm_standAtBest 34 = .ok (.iload_n 1, 1) := by decide +kernel
theorem d_Pm_standAtBest_35 : decode b_Pm_standAtBest 35 = .ok (.aload_n 0, 1) := by decide +kernel
theorem d_Pm_standAtBest_36 : decode b_Pm_standAtBest 36 = .ok (.getfield 24, 3) := by decide +kernel
theorem d_Pm_standAtBest_39 : decode b_Pm_standAtBest 39 = .ok (.iload_n 1, 1) := by decide +kernel
theorem d_Pm_standAtBest_40 : decode b_Pm_standAtBest 40 = .ok (.iaload, 1) := by decide +kernel
theorem d_Pm_standAtBest_41 : decode b_Pm_standAtBest 41 = .ok (.iastore, 1) := by decide +kernel
theorem d_Pm_standAtBest_42 : decode b_Pm_standAtBest 42 = .ok (.aload_n 0, 1) := by decide +kernel
theorem d_Pm_standAtBest_43 : decode b_Pm_standAtBest 43 = .ok (.dup, 1) := by decide +kernel
theorem d_Pm_standAtBest_44 : decode b_Pm_standAtBest 44 = .ok (.getfield 39, 3) := by decide +kernel
theorem d_Pm_standAtBest_47 : decode b_Pm_standAtBest 47 = .ok (.aload_n 0, 1) := by decide +kernel
theorem d_Pm_standAtBest_48 : decode b_Pm_standAtBest 48 = .ok (.getfield 15, 3) := by decide +kernel
theorem d_Pm_standAtBest_51 : decode b_Pm_standAtBest 51 = .ok (.iload_n 1, 1) := by decide +kernel
theorem d_Pm_standAtBest_52 : decode b_Pm_standAtBest 52 = .ok (.iaload, 1) := by decide +kernel
theorem d_Pm_standAtBest_53 : decode b_Pm_standAtBest 53 = .ok (.getstatic 140, 3) := by decide +kernel
theorem d_Pm_standAtBest_56 : decode b_Pm_standAtBest 56 = .ok (.iload_n 1, 1) := by decide +kernel
theorem d_Pm_standAtBest_57 : decode b_Pm_standAtBest 57 = .ok (.iaload, 1) := by decide +kernel
theorem d_Pm_standAtBest_58 : decode b_Pm_standAtBest 58 = .ok (.imul, 1) := by decide +kernel
theorem d_Pm_standAtBest_59 : decode b_Pm_standAtBest 59 = .ok (.iadd, 1) := by decide +kernel
theorem d_Pm_standAtBest_60 : decode b_Pm_standAtBest 60 = .ok (.putfield 39, 3) := by decide +kernel
theorem d_Pm_standAtBest_63 : decode b_Pm_standAtBest 63 = .ok (.aload_n 0, 1) := by decide +kernel
theorem d_Pm_standAtBest_64 : decode b_Pm_standAtBest 64 = .ok (.dup, 1) := by decide +kernel
theorem d_Pm_standAtBest_65 : decode b_Pm_standAtBest 65 = .ok (.getfield 42, 3) := by decide +kernel
theorem d_Pm_standAtBest_68 : decode b_Pm_standAtBest 68 = .ok (.aload_n 0, 1) := by decide +kernel
theorem d_Pm_standAtBest_69 : decode b_Pm_standAtBest 69 = .ok (.getfield 15, 3) := by decide +kernel
theorem d_Pm_standAtBest_72 : decode b_Pm_standAtBest 72 = .ok (.iload_n 1, 1) := by decide +kernel
theorem d_Pm_standAtBest_73 : decode b_Pm_standAtBest 73 = .ok (.iaload, 1) := by decide +kernel
theorem d_Pm_standAtBest_74 : decode b_Pm_standAtBest 74 = .ok (.iadd, 1) := by decide +kernel
theorem d_Pm_standAtBest_75 : decode b_Pm_standAtBest 75 = .ok (.putfield 42, 3) := by decide +kernel
theorem d_Pm_standAtBest_78 : decode b_Pm_standAtBest 78 = .ok (.iinc 1 1, 3) := by decide +kernel
theorem d_Pm_standAtBest_81 : decode b_Pm_standAtBest 81 = .ok (.goto (-69), 3) := by decide +kernel
theorem d_Pm_standAtBest_84 : decode b_Pm_standAtBest 84 = .ok (.return_, 1) := by decide +kernel
set_option maxRecDepth 20000 in
theorem c_Pm_standAtBest_b12 {r : Unit} {wz : gW} {rec12 : Nat × Int32 × gW → Option (Unit × gW)} (ih12 : ∀ (a0 : Nat) (a1 : Int32) (w : gW) (ls : Array Slot) (H : Heap) (locs : List Loc), rec12 (a0, a1, w) = some (r, wz) → lv_has ls 2 [(0, .ref (B + a0)), (1, .int a1)] → gRep D cA B w H → va_S (gA B) s.heap H locs → W p l e ({ frames := 1, cells := 0, slots := 0, locals := 40 } : Room) s m args below meth c H locs 0 0 (MQ below (gQv D cA B r wz) args s 0 0 (gA B)) (F0 m 12 ls [])) (C : gC p s m args meth c "RidCoppers$Payment" b_Pm_standAtBest 2 none D cA oc B) (a0 : Nat) (a1 : Int32) (w : gW) {ls : Array Slot} {H : Heap} {locs : List Loc} (hl : lv_has ls 2 [(0, .ref (B + a0)), (1, .int a1)]) (hf : f_Pm_standAtBest_b12 N rec12 a0 a1 w = some (r, wz)) (hR : gRep D cA B w H) (hS : va_S (gA B) s.heap H locs) : W p l e ({ frames := 1, cells := 0, slots := 0, locals := 40 } : Room) s m args below meth c H locs 0 0 (MQ below (gQv D cA B r wz) args s 0 0 (gA B)) (F0 m 12 ls []) := by
  obtain ⟨hx, hb, hml, hown, hts, hr, hlocks, hK, hBs⟩ := id C
  unfold f_Pm_standAtBest_b12 at hf
  refine lv_iload_n hx hb d_Pm_standAtBest_12 rfl (lv_at hl 1 rfl) ?_
  refine lv_bipush (v := 6) hx hb d_Pm_standAtBest_13 (by decide) ?_
  refine lv_icmp_ge (tgt := 84) hx hb d_Pm_standAtBest_15 (by decide) (fun hc => ?_) (fun hc => ?_)
  · have hf := cd_t hc hf
    exact g_vret hx hb hr hlocks hR hS hf d_Pm_standAtBest_84
  have hf := cd_f hc hf
  refine lv_aload_n hx hb d_Pm_standAtBest_18 rfl (lv_at hl 0 rfl) ?_
  have ⟨h5, hf⟩ := gd_e hf
  have ⟨x6, h7, hf⟩ := rr_e hf
  refine g_getR hx hb hts hown hK hR fl_Pm_15 (fun _ => rfl) h5 h7 d_Pm_standAtBest_19 ?_
  refine lv_iload_n hx hb d_Pm_standAtBest_22 rfl (lv_at hl 1 rfl) ?_
  refine lv_aload_n hx hb d_Pm_standAtBest_23 rfl (lv_at hl 0 rfl) ?_
  have ⟨x8, h9, hf⟩ := rr_e hf
  refine g_getR hx hb hts hown hK hR fl_Pm_21 (fun _ => rfl) h5 h9 d_Pm_standAtBest_24 ?_
  refine lv_iload_n hx hb d_Pm_standAtBest_27 rfl (lv_at hl 1 rfl) ?_
  have ⟨h10, hf⟩ := gd_e hf
  have ⟨h11, hf⟩ := gd_e hf
  refine g_iald hx hb hK hR h10 h11 d_Pm_standAtBest_28 ?_
  refine g_nI hf (fun x12 hf => ?_)
  have ⟨h13, hf⟩ := gd_e hf
  have ⟨h14, hf⟩ := gd_e hf
  refine g_iast hx hb hK hR hS h13 h14 d_Pm_standAtBest_29 (fun H locs hR hS => ?_)
  refine g_nW hf hR (fun w15 hf hR => ?_)
  refine lv_aload_n hx hb d_Pm_standAtBest_30 rfl (lv_at hl 0 rfl) ?_
  have ⟨h16, hf⟩ := gd_e hf
  have ⟨x17, h18, hf⟩ := rr_e hf
  refine g_getR hx hb hts hown hK hR fl_Pm_18 (fun _ => rfl) h16 h18 d_Pm_standAtBest_31 ?_
  refine lv_iload_n hx hb d_Pm_standAtBest_34 rfl (lv_at hl 1 rfl) ?_
  refine lv_aload_n hx hb d_Pm_standAtBest_35 rfl (lv_at hl 0 rfl) ?_
  have ⟨x19, h20, hf⟩ := rr_e hf
  refine g_getR hx hb hts hown hK hR fl_Pm_24 (fun _ => rfl) h16 h20 d_Pm_standAtBest_36 ?_
  refine lv_iload_n hx hb d_Pm_standAtBest_39 rfl (lv_at hl 1 rfl) ?_
  have ⟨h21, hf⟩ := gd_e hf
  have ⟨h22, hf⟩ := gd_e hf
  refine g_iald hx hb hK hR h21 h22 d_Pm_standAtBest_40 ?_
  refine g_nI hf (fun x23 hf => ?_)
  have ⟨h24, hf⟩ := gd_e hf
  have ⟨h25, hf⟩ := gd_e hf
  refine g_iast hx hb hK hR hS h24 h25 d_Pm_standAtBest_41 (fun H locs hR hS => ?_)
  refine g_nW hf hR (fun w26 hf hR => ?_)
  refine lv_aload_n hx hb d_Pm_standAtBest_42 rfl (lv_at hl 0 rfl) ?_
  refine lv_dup hx hb d_Pm_standAtBest_43 rfl ?_
  have ⟨h27, hf⟩ := gd_e hf
  refine g_getI hx hb hts hown hK hR fl_Pm_39 (fun _ => rfl) h27 d_Pm_standAtBest_44 ?_
  refine g_nI hf (fun x28 hf => ?_)
  refine lv_aload_n hx hb d_Pm_standAtBest_47 rfl (lv_at hl 0 rfl) ?_
  have ⟨x29, h30, hf⟩ := rr_e hf
  refine g_getR hx hb hts hown hK hR fl_Pm_15 (fun _ => rfl) h27 h30 d_Pm_standAtBest_48 ?_
  refine lv_iload_n hx hb d_Pm_standAtBest_51 rfl (lv_at hl 1 rfl) ?_
  have ⟨h31, hf⟩ := gd_e hf
  have ⟨h32, hf⟩ := gd_e hf
  refine g_iald hx hb hK hR h31 h32 d_Pm_standAtBest_52 ?_
  refine g_nI hf (fun x33 hf => ?_)
  refine g_worthN hx hb hown hK hS hK.2.2.2.1.2.1 d_Pm_standAtBest_53 ?_
  refine lv_iload_n hx hb d_Pm_standAtBest_56 rfl (lv_at hl 1 rfl) ?_
  have ⟨h34, hf⟩ := gd_e hf
  refine g_wld hx hb hK hS h34 d_Pm_standAtBest_57 ?_
  refine g_nI hf (fun x35 hf => ?_)
  refine lv_imul hx hb d_Pm_standAtBest_58 ?_
  refine g_nI hf (fun x36 hf => ?_)
  refine lv_iadd hx hb d_Pm_standAtBest_59 ?_
  refine g_nI hf (fun x37 hf => ?_)
  refine g_putI hx hb hts hown hK hR hS pf_Pm_39 (fun _ => rfl) rfl rfl h27 d_Pm_standAtBest_60 (fun H locs hR hS => ?_)
  refine g_nW hf hR (fun w38 hf hR => ?_)
  refine lv_aload_n hx hb d_Pm_standAtBest_63 rfl (lv_at hl 0 rfl) ?_
  refine lv_dup hx hb d_Pm_standAtBest_64 rfl ?_
  have ⟨h39, hf⟩ := gd_e hf
  refine g_getI hx hb hts hown hK hR fl_Pm_42 (fun _ => rfl) h39 d_Pm_standAtBest_65 ?_
  refine g_nI hf (fun x40 hf => ?_)
  refine lv_aload_n hx hb d_Pm_standAtBest_68 rfl (lv_at hl 0 rfl) ?_
  have ⟨x41, h42, hf⟩ := rr_e hf
  refine g_getR hx hb hts hown hK hR fl_Pm_15 (fun _ => rfl) h39 h42 d_Pm_standAtBest_69 ?_
  refine lv_iload_n hx hb d_Pm_standAtBest_72 rfl (lv_at hl 1 rfl) ?_
  have ⟨h43, hf⟩ := gd_e hf
  have ⟨h44, hf⟩ := gd_e hf
  refine g_iald hx hb hK hR h43 h44 d_Pm_standAtBest_73 ?_
  refine g_nI hf (fun x45 hf => ?_)
  refine lv_iadd hx hb d_Pm_standAtBest_74 ?_
  refine g_nI hf (fun x46 hf => ?_)
  refine g_putI hx hb hts hown hK hR hS pf_Pm_42 (fun _ => rfl) rfl rfl h39 d_Pm_standAtBest_75 (fun H locs hR hS => ?_)
  refine g_nW hf hR (fun w47 hf hR => ?_)
  refine g_iinc (lv' := fun x48 => [(1, .int x48), (0, .ref (B + a0))]) hf hx hb d_Pm_standAtBest_78 hl (k := 1) rfl (by decide) (by decide) (fun _ => rfl) (fun x48 ls hf hl => ?_)
  refine lv_goto (tgt := 12) hx hb d_Pm_standAtBest_81 (by decide) ?_
  exact ih12 a0 x48 w47 _ _ _ hf (lv_sub hl [1, 0] rfl) hR hS
theorem c_Pm_standAtBest_l12 {r : Unit} {wz : gW} (C : gC p s m args meth c "RidCoppers$Payment" b_Pm_standAtBest 2 none D cA oc B) (a0 : Nat) (a1 : Int32) (w : gW) {ls : Array Slot} {H : Heap} {locs : List Loc} (hl : lv_has ls 2 [(0, .ref (B + a0)), (1, .int a1)]) (hf : f_Pm_standAtBest_l12 N a0 a1 w = some (r, wz)) (hR : gRep D cA B w H) (hS : va_S (gA B) s.heap H locs) : W p l e ({ frames := 1, cells := 0, slots := 0, locals := 40 } : Room) s m args below meth c H locs 0 0 (MQ below (gQv D cA B r wz) args s 0 0 (gA B)) (F0 m 12 ls []) := by
  unfold f_Pm_standAtBest_l12 at hf
  suffices hh : ∀ n : Nat, ∀ (a0 : Nat) (a1 : Int32) (w : gW) (ls : Array Slot) (H : Heap) (locs : List Loc), itr (fun rec (q : Nat × Int32 × gW) => f_Pm_standAtBest_b12 N rec q.1 q.2.1 q.2.2) n (a0, a1, w) = some (r, wz) → lv_has ls 2 [(0, .ref (B + a0)), (1, .int a1)] → gRep D cA B w H → va_S (gA B) s.heap H locs → W p l e ({ frames := 1, cells := 0, slots := 0, locals := 40 } : Room) s m args below meth c H locs 0 0 (MQ below (gQv D cA B r wz) args s 0 0 (gA B)) (F0 m 12 ls []) from hh N a0 a1 w ls H locs hf hl hR hS
  intro n
  induction n with
  | zero => intro a0 a1 w ls H locs hf; cases hf
  | succ n ihn =>
    intro a0 a1 w ls H locs hf hl hR hS
    exact c_Pm_standAtBest_b12 (N := N) ihn C a0 a1 w hl ((itr_s _ _ _).symm.trans hf) hR hS
set_option maxRecDepth 20000 in
theorem c_Pm_standAtBest_b0 {r : Unit} {wz : gW} (C : gC p s m args meth c "RidCoppers$Payment" b_Pm_standAtBest 2 none D cA oc B) (a0 : Nat) (w : gW) {ls : Array Slot} {H : Heap} {locs : List Loc} (hl : lv_has ls 2 [(0, .ref (B + a0))]) (hf : f_Pm_standAtBest_b0 N a0 w = some (r, wz)) (hR : gRep D cA B w H) (hS : va_S (gA B) s.heap H locs) : W p l e ({ frames := 1, cells := 0, slots := 0, locals := 40 } : Room) s m args below meth c H locs 0 0 (MQ below (gQv D cA B r wz) args s 0 0 (gA B)) (F0 m 0 ls []) := by
  obtain ⟨hx, hb, hml, hown, hts, hr, hlocks, hK, hBs⟩ := id C
  unfold f_Pm_standAtBest_b0 at hf
  refine lv_aload_n hx hb d_Pm_standAtBest_0 rfl (lv_at hl 0 rfl) ?_
  refine lv_iconst (v := 0) hx hb d_Pm_standAtBest_1 (by decide) ?_
  have ⟨h1, hf⟩ := gd_e hf
  refine g_putI hx hb hts hown hK hR hS pf_Pm_39 (fun _ => rfl) rfl rfl h1 d_Pm_standAtBest_2 (fun H locs hR hS => ?_)
  refine g_nW hf hR (fun w2 hf hR => ?_)
  refine lv_aload_n hx hb d_Pm_standAtBest_5 rfl (lv_at hl 0 rfl) ?_
  refine lv_iconst (v := 0) hx hb d_Pm_standAtBest_6 (by decide) ?_
  have ⟨h3, hf⟩ := gd_e hf
  refine g_putI hx hb hts hown hK hR hS pf_Pm_42 (fun _ => rfl) rfl rfl h3 d_Pm_standAtBest_7 (fun H locs hR hS => ?_)
  refine g_nW hf hR (fun w4 hf hR => ?_)
  refine lv_iconst (v := 0) hx hb d_Pm_standAtBest_10 (by decide) ?_
  refine lv_istore_n (lv' := [(1, .int 0), (0, .ref (B + a0))]) hx hb d_Pm_standAtBest_11 rfl hl (by decide) rfl (fun ls hl => ?_)
  exact c_Pm_standAtBest_l12 C a0 0 w4 (lv_sub hl [1, 0] rfl) hf hR hS
theorem c_Pm_standAtBest (l : Launch) (D : va_G) (cA : Nat → ClassId) (oc : gO) (B N : Nat) (a0 : Nat) (w : gW) {wz : gW} {r : Unit} (hf : f_Pm_standAtBest N a0 w = some (r, wz)) : Met l y_Pm_standAtBest (Cond.code y_Pm_standAtBest b_Pm_standAtBest 2 none :: lw_good) ({ frames := 1, cells := 0, slots := 0, locals := 40 } : Room) (gPre D cA oc B [.ref (B + a0)] w) (gQv D cA B r wz) 0 0 (gA B) := by
  refine Met.ofW (cc := b_Pm_standAtBest) (maxL := 2) (ret := none) (by decide +kernel) rfl ?_
  intro p e s m args below meth c s₁ Bd hml hv
  obtain ⟨hargs, C, hR⟩ := gC.enter (l := l) rfl Bd hml hv
  subst hargs
  have hl := lv_entry ([.ref (B + a0)]) (n := 2) (Nat.le_of_ble_eq_true rfl)
  rw [lg_entry_eq]
  generalize (lg_sl ([.ref (B + a0)]) ++ List.replicate (2 - (lg_sl ([.ref (B + a0)])).length) Slot.unset).toArray = ls at hl ⊢
  have hl : lv_has ls 2 [(0, .ref (B + a0))] := hl
  exact c_Pm_standAtBest_b0 C a0 w (lv_sub hl [0] rfl) hf hR va_S.rf
theorem d_Pm_choose_0 : decode b_Pm_choose 0 = .ok (.aload_n 0, 1) := by decide +kernel
theorem d_Pm_choose_1 : decode b_Pm_choose 1 = .ok (.aload_n 1, 1) := by decide +kernel
theorem d_Pm_choose_2 : decode b_Pm_choose 2 = .ok (.aload_n 2, 1) := by decide +kernel
theorem d_Pm_choose_3 : decode b_Pm_choose 3 = .ok (.iconst 1, 1) := by decide +kernel
theorem d_Pm_choose_4 : decode b_Pm_choose 4 = .ok (.invokevirtual 45, 3) := by decide +kernel
theorem d_Pm_choose_7 : decode b_Pm_choose 7 = .ok (.istore 4, 2) := by decide +kernel
theorem d_Pm_choose_9 : decode b_Pm_choose 9 = .ok (.aload_n 0, 1) := by decide +kernel
theorem d_Pm_choose_10 : decode b_Pm_choose 10 = .ok (.iload_n 3, 1) := by decide +kernel
theorem d_Pm_choose_11 : decode b_Pm_choose 11 = .ok (.putfield 35, 3) := by decide +kernel
theorem d_Pm_choose_14 : decode b_Pm_choose 14 = .ok (.aload_n 2, 1) := by decide +kernel
theorem d_Pm_choose_15 : decode b_Pm_choose 15 = .ok (.invokevirtual 49, 3) := by decide +kernel
theorem d_Pm_choose_18 : decode b_Pm_choose 18 = .ok (.ifCond .ne 7, 3) := by decide +kernel
theorem d_Pm_choose_21 : decode b_Pm_choose 21 = .ok (.iconst 1, 1) := by decide +kernel
theorem d_Pm_choose_22 : decode b_Pm_choose 22 = .ok (.goto 4, 3) := by decide +kernel
theorem d_Pm_choose_25 : decode b_Pm_choose 25 = .ok (.iconst 0, 1) := by decide +kernel
theorem d_Pm_choose_26 : decode b_Pm_choose 26 = .ok (.istore 5, 2) := by decide +kernel
theorem d_Pm_choose_28 : decode b_Pm_choose 28 = .ok (.ldc2_w 55, 3) := by decide +kernel
theorem d_Pm_choose_31 : decode b_Pm_choose 31 = .ok (.lstore 6, 2) := by decide +kernel
theorem d_Pm_choose_33 : decode b_Pm_choose 33 = .ok (.iconst 0, 1) := by decide +kernel
theorem d_Pm_choose_34 : decode b_Pm_choose 34 = .ok (.istore 8, 2) := by decide +kernel
theorem d_Pm_choose_36 : decode b_Pm_choose 36 = .ok (.iload 8, 2) := by decide +kernel
theorem d_Pm_choose_38 : decode b_Pm_choose 38 = .ok (.iload 4, 2) := by decide +kernel
theorem d_Pm_choose_40 : decode b_Pm_choose 40 = .ok (.if_icmp .ge 105, 3) := by decide +kernel
theorem d_Pm_choose_43 : decode b_Pm_choose 43 = .ok (.aload_n 0, 1) := by decide +kernel
theorem d_Pm_choose_44 : decode b_Pm_choose 44 = .ok (.getfield 39, 3) := by decide +kernel
theorem d_Pm_choose_47 : decode b_Pm_choose 47 = .ok (.iload_n 3, 1) := by decide +kernel
theorem d_Pm_choose_48 : decode b_Pm_choose 48 = .ok (.if_icmp .lt 19, 3) := by decide +kernel
theorem d_Pm_choose_51 : decode b_Pm_choose 51 = .ok (.iload 5, 2) := by decide +kernel
theorem d_Pm_choose_53 : decode b_Pm_choose 53 = .ok (.ifCond .eq 18, 3) := by decide +kernel
theorem d_Pm_choose_56 : decode b_Pm_choose 56 = .ok (.aload_n 2, 1) := by decide +kernel
theorem d_Pm_choose_57 : decode b_Pm_choose 57 = .ok (.aload_n 0, 1) := by decide +kernel
theorem d_Pm_choose_58 : decode b_Pm_choose 58 = .ok (.invokevirtual 57, 3) := by decide +kernel
theorem d_Pm_choose_61 : decode b_Pm_choose 61 = .ok (.lload 6, 2) := by decide +kernel
theorem d_Pm_choose_63 : decode b_Pm_choose 63 = .ok (.lcmp, 1) := by decide +kernel
theorem d_Pm_choose_64 : decode b_Pm_choose 64 = .ok (.ifCond .lt 7, 3) := by decide +kernel
theorem d_Pm_choose_67 : decode b_Pm_choose 67 = .ok (.iconst 1, 1) := by decide +kernel
theorem d_Pm_choose_68 : decode b_Pm_choose 68 = .ok (.goto 4, 3) := by decide +kernel
theorem d_Pm_choose_71 : decode b_Pm_choose 71 = .ok (.iconst 0, 1) := by decide +kernel
theorem d_Pm_choose_72 : decode b_Pm_choose 72 = .ok (.istore 9, 2) := by decide +kernel
theorem d_Pm_choose_74 : decode b_Pm_choose 74 = .ok (.iload 9, 2) := by decide +kernel
theorem d_Pm_choose_76 : decode b_Pm_choose 76 = .ok (.ifCond .ne 59, 3) := by decide +kernel
theorem d_Pm_choose_79 : decode b_Pm_choose 79 = .ok (.aload_n 0, 1) := by decide +kernel
theorem d_Pm_choose_80 : decode b_Pm_choose 80 = .ok (.invokevirtual 61, 3) := by decide +kernel
theorem d_Pm_choose_83 : decode b_Pm_choose 83 = .ok (.ifCond .eq 52, 3) := by decide +kernel
theorem d_Pm_choose_86 : decode b_Pm_choose 86 = .ok (.aload_n 2, 1) := by decide +kernel
theorem d_Pm_choose_87 : decode b_Pm_choose 87 = .ok (.aload_n 0, 1) := by decide +kernel
theorem d_Pm_choose_88 : decode b_Pm_choose 88 = .ok (.invokevirtual 57, 3) := by decide +kernel
theorem d_Pm_choose_91 : decode b_Pm_choose 91 = .ok (.lstore 10, 2) := by decide +kernel
theorem d_Pm_choose_93 : decode b_Pm_choose 93 = .ok (.lload 10, 2) := by decide +kernel
theorem d_Pm_choose_95 : decode b_Pm_choose 95 = .ok (.lload 6, 2) := by decide +kernel
theorem d_Pm_choose_97 : decode b_Pm_choose 97 = .ok (.lcmp, 1) := by decide +kernel
theorem d_Pm_choose_98 : decode b_Pm_choose 98 = .ok (.ifCond .ge 37, 3) := by decide +kernel
theorem d_Pm_choose_101 : decode b_Pm_choose 101 = .ok (.lload 10, 2) := by decide +kernel
theorem d_Pm_choose_103 : decode b_Pm_choose 103 = .ok (.lstore 6, 2) := by decide +kernel
theorem d_Pm_choose_105 : decode b_Pm_choose 105 = .ok (.aload_n 0, 1) := by decide +kernel
theorem d_Pm_choose_106 : decode b_Pm_choose 106 = .ok (.getfield 15, 3) := by decide +kernel
theorem d_Pm_choose_109 : decode b_Pm_choose 109 = .ok (.iconst 0, 1) := by decide +kernel
theorem d_Pm_choose_110 : decode b_Pm_choose 110 = .ok (.aload_n 0, 1) := by decide +kernel
theorem d_Pm_choose_111 : decode b_Pm_choose 111 = .ok (.getfield 21, 3) := by decide +kernel
theorem d_Pm_choose_114 : decode b_Pm_choose 114 = .ok (.iconst 0, 1) := by decide +kernel
theorem d_Pm_choose_115 : decode b_Pm_choose 115 = .ok (.bipush 6, 2) := by decide +kernel
theorem d_Pm_choose_117 : decode b_Pm_choose 117 = .ok (.invokestatic 64, 3) := by decide +kernel
theorem d_Pm_choose_120 : decode b_Pm_choose 120 = .ok (.aload_n 0, 1) := by decide +kernel
theorem d_Pm_choose_121 : decode b_Pm_choose 121 = .ok (.getfield 18, 3) := by decide +kernel
theorem d_Pm_choose_124 : decode b_Pm_choose 124 = .ok (.iconst 0, 1) := by decide +kernel
theorem d_Pm_choose_125 : decode b_Pm_choose 125 = .ok (.aload_n 0, 1) := by decide +kernel
theorem d_Pm_choose_126 : decode b_Pm_choose 126 = .ok (.getfield 24, 3) := by decide +kernel
theorem d_Pm_choose_129 : decode b_Pm_choose 129 = .ok (.iconst 0, 1) := by decide +kernel
theorem d_Pm_choose_130 : decode b_Pm_choose 130 = .ok (.bipush 6, 2) := by decide +kernel
theorem d_Pm_choose_132 : decode b_Pm_choose 132 = .ok (.invokestatic 64, 3) := by decide +kernel
theorem d_Pm_choose_135 : decode b_Pm_choose 135 = .ok (.aload_n 0, 1) := by decide +kernel
theorem d_Pm_choose_136 : decode b_Pm_choose 136 = .ok (.invokevirtual 70, 3) := by decide +kernel
theorem d_Pm_choose_139 : decode b_Pm_choose 139 = .ok (.iinc 8 1, 3) := by decide +kernel
theorem d_Pm_choose_142 : decode b_Pm_choose 142 = .ok (.goto (-106), 3) := by decide +kernel
theorem d_Pm_choose_145 : decode b_Pm_choose 145 = .ok (.lload 6, 2) := by decide +kernel
theorem d_Pm_choose_147 : decode b_Pm_choose 147 = .ok (.ldc2_w 55, 3) := by decide +kernel
theorem d_Pm_choose_150 : decode b_Pm_choose 150 = .ok (.lcmp, 1) := by decide +kernel
theorem d_Pm_choose_151 : decode b_Pm_choose 151 = .ok (.ifCond .ne 5, 3) := by decide +kernel
theorem d_Pm_choose_154 : decode b_Pm_choose 154 = .ok (.iconst 0, 1) := by decide +kernel
theorem d_Pm_choose_155 : decode b_Pm_choose 155 = .ok (.ireturn, 1) := by decide +kernel
theorem d_Pm_choose_156 : decode b_Pm_choose 156 = .ok (.aload_n 0, 1) := by decide +kernel
theorem d_Pm_choose_157 : decode b_Pm_choose 157 = .ok (.invokevirtual 73, 3) := by decide +kernel
theorem d_Pm_choose_160 : decode b_Pm_choose 160 = .ok (.iconst 1, 1) := by decide +kernel
theorem d_Pm_choose_161 : decode b_Pm_choose 161 = .ok (.ireturn, 1) := by decide +kernel
set_option maxRecDepth 20000 in
theorem g_rv_thinksOfWeight {R : Room} {H : Heap} {locs : List Loc} {cells slots idx nL a pc : Nat} {ls : Array Slot} {cc : ByteArray} {own : String} {w w1 : gW} {rest st0 : List Value} {x : Int32} (hexec : p.tables.exec = Jvm.exec) (hb : c.code = cc) (hml : c.maxLocals = nL) (hown : s.vm.findClass own = some m.cls) (hts : ∀ w ∈ lw_good, w.before args s = true) (hK : gK D cA oc B s s.heap) (hR : gRep D cA B w H) (hS : va_S (gA B) s.heap H locs) (hh : v_thinksOfWeight N a w = some (x, w1)) (hl : Cond.methodLink own idx y_P_thinksOfWeight ∈ lw_good) (hstack : st0 = .ref (B + a) :: rest) (hcat : (rest.map fun v => v.category).sum ≤ 8) (hsz : ls.size = nL) (hrm : 2 ≤ R.frames ∧ 60 ≤ R.locals) (hcs : cells ≤ R.cells ∧ slots ≤ R.slots) (hdg : decode cc pc = .ok (.invokevirtual idx, 3)) : va_Run p l e R s m args below meth c H locs cells slots 0 0 (F0 m pc ls st0) rest (gQi D cA B x w1 (Value.ref (B + a) :: []).toArray) (gA B) := by
  unfold v_thinksOfWeight at hh
  by_cases h0 : (sh w a).1 = 0
  · have hh := cd_t h0 hh
    exact g_rU (As := []) (rest := rest) (x := y_P_thinksOfWeight) (owner := "RidCoppers$Payer") (C := "RidCoppers$Payer") hexec hb hml hown hts hK hR hS (c_P_thinksOfWeight l D cA oc B N a w hh) I_P_thinksOfWeight hl m_647 m_645 m_656 m_646 (by decide) (by decide +kernel) (gRecv hK hR (ci := 0) rfl h0) rfl hstack hcat hsz ⟨Nat.le_trans (m := 2) (Nat.le_of_ble_eq_true rfl) hrm.1, Nat.le_trans (m := 60) (Nat.le_of_ble_eq_true rfl) hrm.2⟩ hcs hdg
  have hh := cd_f h0 hh
  by_cases h1 : (sh w a).1 = 1
  · have hh := cd_t h1 hh
    exact g_rU (As := []) (rest := rest) (x := y_P_thinksOfWeight) (owner := "RidCoppers$Payer") (C := "RidCoppers$Exact") hexec hb hml hown hts hK hR hS (c_P_thinksOfWeight l D cA oc B N a w hh) I_P_thinksOfWeight hl m_647 m_645 m_656 m_648 (by decide) (by decide +kernel) (gRecv hK hR (ci := 1) rfl h1) rfl hstack hcat hsz ⟨Nat.le_trans (m := 2) (Nat.le_of_ble_eq_true rfl) hrm.1, Nat.le_trans (m := 60) (Nat.le_of_ble_eq_true rfl) hrm.2⟩ hcs hdg
  have hh := cd_f h1 hh
  by_cases h2 : (sh w a).1 = 2
  · have hh := cd_t h2 hh
    exact g_rU (As := []) (rest := rest) (x := y_P_thinksOfWeight) (owner := "RidCoppers$Payer") (C := "RidCoppers$Rough") hexec hb hml hown hts hK hR hS (c_P_thinksOfWeight l D cA oc B N a w hh) I_P_thinksOfWeight hl m_647 m_645 m_656 m_653 (by decide) (by decide +kernel) (gRecv hK hR (ci := 2) rfl h2) rfl hstack hcat hsz ⟨Nat.le_trans (m := 2) (Nat.le_of_ble_eq_true rfl) hrm.1, Nat.le_trans (m := 60) (Nat.le_of_ble_eq_true rfl) hrm.2⟩ hcs hdg
  have hh := cd_f h2 hh
  by_cases h3 : (sh w a).1 = 3
  · have hh := cd_t h3 hh
    exact g_rU (As := []) (rest := rest) (x := y_P_thinksOfWeight) (owner := "RidCoppers$Payer") (C := "RidCoppers$Keeper") hexec hb hml hown hts hK hR hS (c_P_thinksOfWeight l D cA oc B N a w hh) I_P_thinksOfWeight hl m_647 m_645 m_656 m_649 (by decide) (by decide +kernel) (gRecv hK hR (ci := 3) rfl h3) rfl hstack hcat hsz ⟨Nat.le_trans (m := 2) (Nat.le_of_ble_eq_true rfl) hrm.1, Nat.le_trans (m := 60) (Nat.le_of_ble_eq_true rfl) hrm.2⟩ hcs hdg
  have hh := cd_f h3 hh
  by_cases h4 : (sh w a).1 = 4
  · have hh := cd_t h4 hh
    exact g_rU (As := []) (rest := rest) (x := y_P_thinksOfWeight) (owner := "RidCoppers$Payer") (C := "RidCoppers$Light") hexec hb hml hown hts hK hR hS (c_Li_thinksOfWeight l D cA oc B N a w hh) I_Li_thinksOfWeight hl m_647 m_645 m_656 m_650 (by decide) (by decide +kernel) (gRecv hK hR (ci := 4) rfl h4) rfl hstack hcat hsz ⟨Nat.le_trans (m := 2) (Nat.le_of_ble_eq_true rfl) hrm.1, Nat.le_trans (m := 60) (Nat.le_of_ble_eq_true rfl) hrm.2⟩ hcs hdg
  have hh := cd_f h4 hh
  by_cases h5 : (sh w a).1 = 5
  · have hh := cd_t h5 hh
    exact g_rU (As := []) (rest := rest) (x := y_P_thinksOfWeight) (owner := "RidCoppers$Payer") (C := "RidCoppers$Wild") hexec hb hml hown hts hK hR hS (c_P_thinksOfWeight l D cA oc B N a w hh) I_P_thinksOfWeight hl m_647 m_645 m_656 m_655 (by decide) (by decide +kernel) (gRecv hK hR (ci := 5) rfl h5) rfl hstack hcat hsz ⟨Nat.le_trans (m := 2) (Nat.le_of_ble_eq_true rfl) hrm.1, Nat.le_trans (m := 60) (Nat.le_of_ble_eq_true rfl) hrm.2⟩ hcs hdg
  have hh := cd_f h5 hh
  by_cases h6 : (sh w a).1 = 6
  · have hh := cd_t h6 hh
    exact g_rU (As := []) (rest := rest) (x := y_P_thinksOfWeight) (owner := "RidCoppers$Payer") (C := "RidCoppers$Told") hexec hb hml hown hts hK hR hS (c_P_thinksOfWeight l D cA oc B N a w hh) I_P_thinksOfWeight hl m_647 m_645 m_656 m_654 (by decide) (by decide +kernel) (gRecv hK hR (ci := 6) rfl h6) rfl hstack hcat hsz ⟨Nat.le_trans (m := 2) (Nat.le_of_ble_eq_true rfl) hrm.1, Nat.le_trans (m := 60) (Nat.le_of_ble_eq_true rfl) hrm.2⟩ hcs hdg
  have hh := cd_f h6 hh
  cases hh
set_option maxRecDepth 20000 in
theorem g_rv_rank {R : Room} {H : Heap} {locs : List Loc} {cells slots idx nL a pc : Nat} {ls : Array Slot} {cc : ByteArray} {own : String} {w w1 : gW} {rest st0 : List Value} {a1 : Nat} {x : Int64} (hexec : p.tables.exec = Jvm.exec) (hb : c.code = cc) (hml : c.maxLocals = nL) (hown : s.vm.findClass own = some m.cls) (hts : ∀ w ∈ lw_good, w.before args s = true) (hK : gK D cA oc B s s.heap) (hR : gRep D cA B w H) (hS : va_S (gA B) s.heap H locs) (hh : v_rank N a a1 w = some (x, w1)) (hl : Cond.methodLink own idx y_P_rank ∈ lw_good) (hstack : st0 = .ref (B + a1) :: .ref (B + a) :: rest) (hcat : (rest.map fun v => v.category).sum ≤ 8) (hsz : ls.size = nL) (hrm : 4 ≤ R.frames ∧ 104 ≤ R.locals) (hcs : cells ≤ R.cells ∧ slots ≤ R.slots) (hdg : decode cc pc = .ok (.invokevirtual idx, 3)) : va_Run p l e R s m args below meth c H locs cells slots 0 0 (F0 m pc ls st0) rest (gQl D cA B x w1 (Value.ref (B + a) :: [.ref (B + a1)]).toArray) (gA B) := by
  unfold v_rank at hh
  by_cases h0 : (sh w a).1 = 0
  · have hh := cd_t h0 hh
    exact g_rU (As := [.ref (B + a1)]) (rest := rest) (x := y_P_rank) (owner := "RidCoppers$Payer") (C := "RidCoppers$Payer") hexec hb hml hown hts hK hR hS (c_P_rank l D cA oc B N a a1 w hh) I_P_rank hl m_661 m_659 m_693 m_660 (by decide) (by decide +kernel) (gRecv hK hR (ci := 0) rfl h0) rfl hstack hcat hsz ⟨Nat.le_trans (m := 4) (Nat.le_of_ble_eq_true rfl) hrm.1, Nat.le_trans (m := 104) (Nat.le_of_ble_eq_true rfl) hrm.2⟩ hcs hdg
  have hh := cd_f h0 hh
  by_cases h1 : (sh w a).1 = 1
  · have hh := cd_t h1 hh
    exact g_rU (As := [.ref (B + a1)]) (rest := rest) (x := y_P_rank) (owner := "RidCoppers$Payer") (C := "RidCoppers$Exact") hexec hb hml hown hts hK hR hS (c_E_rank l D cA oc B N a a1 w hh) I_E_rank hl m_661 m_659 m_693 m_662 (by decide) (by decide +kernel) (gRecv hK hR (ci := 1) rfl h1) rfl hstack hcat hsz ⟨Nat.le_trans (m := 4) (Nat.le_of_ble_eq_true rfl) hrm.1, Nat.le_trans (m := 104) (Nat.le_of_ble_eq_true rfl) hrm.2⟩ hcs hdg
  have hh := cd_f h1 hh
  by_cases h2 : (sh w a).1 = 2
  · have hh := cd_t h2 hh
    exact g_rU (As := [.ref (B + a1)]) (rest := rest) (x := y_P_rank) (owner := "RidCoppers$Payer") (C := "RidCoppers$Rough") hexec hb hml hown hts hK hR hS (c_Ro_rank l D cA oc B N a a1 w hh) I_Ro_rank hl m_661 m_659 m_693 m_682 (by decide) (by decide +kernel) (gRecv hK hR (ci := 2) rfl h2) rfl hstack hcat hsz ⟨Nat.le_trans (m := 4) (Nat.le_of_ble_eq_true rfl) hrm.1, Nat.le_trans (m := 104) (Nat.le_of_ble_eq_true rfl) hrm.2⟩ hcs hdg
  have hh := cd_f h2 hh
  by_cases h3 : (sh w a).1 = 3
  · have hh := cd_t h3 hh
    exact g_rU (As := [.ref (B + a1)]) (rest := rest) (x := y_P_rank) (owner := "RidCoppers$Payer") (C := "RidCoppers$Keeper") hexec hb hml hown hts hK hR hS (c_P_rank l D cA oc B N a a1 w hh) I_P_rank hl m_661 m_659 m_693 m_670 (by decide) (by decide +kernel) (gRecv hK hR (ci := 3) rfl h3) rfl hstack hcat hsz ⟨Nat.le_trans (m := 4) (Nat.le_of_ble_eq_true rfl) hrm.1, Nat.le_trans (m := 104) (Nat.le_of_ble_eq_true rfl) hrm.2⟩ hcs hdg
  have hh := cd_f h3 hh
  by_cases h4 : (sh w a).1 = 4
  · have hh := cd_t h4 hh
    exact g_rU (As := [.ref (B + a1)]) (rest := rest) (x := y_P_rank) (owner := "RidCoppers$Payer") (C := "RidCoppers$Light") hexec hb hml hown hts hK hR hS (c_Li_rank l D cA oc B N a a1 w hh) I_Li_rank hl m_661 m_659 m_693 m_671 (by decide) (by decide +kernel) (gRecv hK hR (ci := 4) rfl h4) rfl hstack hcat hsz ⟨Nat.le_trans (m := 4) (Nat.le_of_ble_eq_true rfl) hrm.1, Nat.le_trans (m := 104) (Nat.le_of_ble_eq_true rfl) hrm.2⟩ hcs hdg
  have hh := cd_f h4 hh
  by_cases h5 : (sh w a).1 = 5
  · have hh := cd_t h5 hh
    exact g_rU (As := [.ref (B + a1)]) (rest := rest) (x := y_P_rank) (owner := "RidCoppers$Payer") (C := "RidCoppers$Wild") hexec hb hml hown hts hK hR hS (c_Wi_rank l D cA oc B N a a1 w hh) I_Wi_rank hl m_661 m_659 m_693 m_688 (by decide) (by decide +kernel) (gRecv hK hR (ci := 5) rfl h5) rfl hstack hcat hsz ⟨Nat.le_trans (m := 4) (Nat.le_of_ble_eq_true rfl) hrm.1, Nat.le_trans (m := 104) (Nat.le_of_ble_eq_true rfl) hrm.2⟩ hcs hdg
  have hh := cd_f h5 hh
  by_cases h6 : (sh w a).1 = 6
  · have hh := cd_t h6 hh
    exact g_rU (As := [.ref (B + a1)]) (rest := rest) (x := y_P_rank) (owner := "RidCoppers$Payer") (C := "RidCoppers$Told") hexec hb hml hown hts hK hR hS (c_P_rank l D cA oc B N a a1 w hh) I_P_rank hl m_661 m_659 m_693 m_687 (by decide) (by decide +kernel) (gRecv hK hR (ci := 6) rfl h6) rfl hstack hcat hsz ⟨Nat.le_trans (m := 4) (Nat.le_of_ble_eq_true rfl) hrm.1, Nat.le_trans (m := 104) (Nat.le_of_ble_eq_true rfl) hrm.2⟩ hcs hdg
  have hh := cd_f h6 hh
  cases hh
set_option maxRecDepth 20000 in
theorem c_Pm_choose_b135 {r : Int32} {wz : gW} {rec36 : Nat × Nat × Int32 × Int32 × Int32 × Int64 × Int32 × gW → Option (Int32 × gW)} (ih36 : ∀ (a0 : Nat) (a2 : Nat) (a3 : Int32) (a4 : Int32) (a5 : Int32) (a6 : Int64) (a8 : Int32) (w : gW) (ls : Array Slot) (H : Heap) (locs : List Loc), rec36 (a0, a2, a3, a4, a5, a6, a8, w) = some (r, wz) → lv_has ls 12 [(0, .ref (B + a0)), (2, .ref (B + a2)), (3, .int a3), (4, .int a4), (5, .int a5), (6, .long a6), (8, .int a8)] → gRep D cA B w H → va_S (gA B) s.heap H locs → W p l e ({ frames := 6, cells := 0, slots := 0, locals := 162 } : Room) s m args below meth c H locs 0 0 (MQ below (gQi D cA B r wz) args s 0 0 (gA B)) (F0 m 36 ls [])) (C : gC p s m args meth c "RidCoppers$Payment" b_Pm_choose 12 (some .boolean) D cA oc B) (a0 : Nat) (a2 : Nat) (a3 : Int32) (a4 : Int32) (a5 : Int32) (a6 : Int64) (a8 : Int32) (w : gW) {ls : Array Slot} {H : Heap} {locs : List Loc} (hl : lv_has ls 12 [(0, .ref (B + a0)), (2, .ref (B + a2)), (3, .int a3), (4, .int a4), (5, .int a5), (6, .long a6), (8, .int a8)]) (hf : f_Pm_choose_b135 N rec36 a0 a2 a3 a4 a5 a6 a8 w = some (r, wz)) (hR : gRep D cA B w H) (hS : va_S (gA B) s.heap H locs) : W p l e ({ frames := 6, cells := 0, slots := 0, locals := 162 } : Room) s m args below meth c H locs 0 0 (MQ below (gQi D cA B r wz) args s 0 0 (gA B)) (F0 m 135 ls []) := by
  obtain ⟨hx, hb, hml, hown, hts, hr, hlocks, hK, hBs⟩ := id C
  unfold f_Pm_choose_b135 at hf
  refine lv_aload_n hx hb d_Pm_choose_135 rfl (lv_at hl 0 rfl) ?_
  have ⟨h20, hf⟩ := gd_e hf
  have ⟨x17, w18, h19, hf⟩ := kl_e hf
  refine g_kv0 (g_rV (As := []) (rest := []) hx hb hml hown hts hK hR hS (c_Pm_advance l D cA oc B N a0 w h19) I_Pm_advance m_707 mp_23 (gRecv hK hR (ci := 10) rfl h20) rfl rfl (Nat.le_of_ble_eq_true rfl) hl.1 ⟨Nat.le_of_ble_eq_true rfl, Nat.le_of_ble_eq_true rfl⟩ ⟨Nat.le_of_ble_eq_true rfl, Nat.le_of_ble_eq_true rfl⟩ d_Pm_choose_136) hS (fun H locs hR hS => ?_)
  refine g_iinc (lv' := fun x21 => [(8, .int x21), (0, .ref (B + a0)), (2, .ref (B + a2)), (3, .int a3), (4, .int a4), (5, .int a5), (6, .long a6)]) hf hx hb d_Pm_choose_139 hl (k := 6) rfl (by decide) (by decide) (fun _ => rfl) (fun x21 ls hf hl => ?_)
  refine lv_goto (tgt := 36) hx hb d_Pm_choose_142 (by decide) ?_
  exact ih36 a0 a2 a3 a4 a5 a6 x21 w18 _ _ _ hf (lv_sub hl [1, 2, 3, 4, 5, 6, 0] rfl) hR hS
set_option maxRecDepth 20000 in
theorem c_Pm_choose_b72 {r : Int32} {wz : gW} {rec36 : Nat × Nat × Int32 × Int32 × Int32 × Int64 × Int32 × gW → Option (Int32 × gW)} (ih36 : ∀ (a0 : Nat) (a2 : Nat) (a3 : Int32) (a4 : Int32) (a5 : Int32) (a6 : Int64) (a8 : Int32) (w : gW) (ls : Array Slot) (H : Heap) (locs : List Loc), rec36 (a0, a2, a3, a4, a5, a6, a8, w) = some (r, wz) → lv_has ls 12 [(0, .ref (B + a0)), (2, .ref (B + a2)), (3, .int a3), (4, .int a4), (5, .int a5), (6, .long a6), (8, .int a8)] → gRep D cA B w H → va_S (gA B) s.heap H locs → W p l e ({ frames := 6, cells := 0, slots := 0, locals := 162 } : Room) s m args below meth c H locs 0 0 (MQ below (gQi D cA B r wz) args s 0 0 (gA B)) (F0 m 36 ls [])) (C : gC p s m args meth c "RidCoppers$Payment" b_Pm_choose 12 (some .boolean) D cA oc B) (a0 : Nat) (a2 : Nat) (a3 : Int32) (a4 : Int32) (a5 : Int32) (a6 : Int64) (a8 : Int32) (z0 : Int32) (w : gW) {ls : Array Slot} {H : Heap} {locs : List Loc} (hl : lv_has ls 12 [(0, .ref (B + a0)), (2, .ref (B + a2)), (3, .int a3), (4, .int a4), (5, .int a5), (6, .long a6), (8, .int a8)]) (hf : f_Pm_choose_b72 N rec36 a0 a2 a3 a4 a5 a6 a8 z0 w = some (r, wz)) (hR : gRep D cA B w H) (hS : va_S (gA B) s.heap H locs) : W p l e ({ frames := 6, cells := 0, slots := 0, locals := 162 } : Room) s m args below meth c H locs 0 0 (MQ below (gQi D cA B r wz) args s 0 0 (gA B)) (F0 m 72 ls [.int z0]) := by
  obtain ⟨hx, hb, hml, hown, hts, hr, hlocks, hK, hBs⟩ := id C
  unfold f_Pm_choose_b72 at hf
  refine lv_istore (lv' := [(9, .int z0), (0, .ref (B + a0)), (2, .ref (B + a2)), (3, .int a3), (4, .int a4), (5, .int a5), (6, .long a6), (8, .int a8)]) hx hb d_Pm_choose_72 hl (by decide) rfl (fun ls hl => ?_)
  refine lv_iload hx hb d_Pm_choose_74 (lv_at hl 0 rfl) ?_
  refine lv_if_ne (tgt := 135) hx hb d_Pm_choose_76 (by decide) (fun hc => ?_) (fun hc => ?_)
  · have hf := cd_f hc hf
    exact c_Pm_choose_b135 ih36 C a0 a2 a3 a4 a5 a6 a8 w (lv_sub hl [1, 2, 3, 4, 5, 6, 7] rfl) hf hR hS
  have hf := cd_t hc hf
  refine lv_aload_n hx hb d_Pm_choose_79 rfl (lv_at hl 1 rfl) ?_
  have ⟨h25, hf⟩ := gd_e hf
  have ⟨x22, w23, h24, hf⟩ := kl_e hf
  refine g_ki0 (g_rV (As := []) (rest := []) hx hb hml hown hts hK hR hS (c_Pm_pays l D cA oc B N a0 w h24) I_Pm_pays m_695 mp_21 (gRecv hK hR (ci := 10) rfl h25) rfl rfl (Nat.le_of_ble_eq_true rfl) hl.1 ⟨Nat.le_of_ble_eq_true rfl, Nat.le_of_ble_eq_true rfl⟩ ⟨Nat.le_of_ble_eq_true rfl, Nat.le_of_ble_eq_true rfl⟩ d_Pm_choose_80) hS (fun H locs hR hS => ?_)
  refine lv_if_eq (tgt := 135) hx hb d_Pm_choose_83 (by decide) (fun hc => ?_) (fun hc => ?_)
  · have hf := cd_t hc hf
    exact c_Pm_choose_b135 ih36 C a0 a2 a3 a4 a5 a6 a8 w23 (lv_sub hl [1, 2, 3, 4, 5, 6, 7] rfl) hf hR hS
  have hf := cd_f hc hf
  refine lv_aload_n hx hb d_Pm_choose_86 rfl (lv_at hl 2 rfl) ?_
  refine lv_aload_n hx hb d_Pm_choose_87 rfl (lv_at hl 1 rfl) ?_
  have ⟨x26, w27, h28, hf⟩ := kl_e hf
  refine g_kl0 (g_rv_rank (rest := []) hx hb hml hown hts hK hR hS h28 m_658 rfl (Nat.le_of_ble_eq_true rfl) hl.1 ⟨Nat.le_of_ble_eq_true rfl, Nat.le_of_ble_eq_true rfl⟩ ⟨Nat.le_of_ble_eq_true rfl, Nat.le_of_ble_eq_true rfl⟩ d_Pm_choose_88) hS (fun H locs hR hS => ?_)
  refine lv_lstore (lv' := [(10, .long x26), (9, .int z0), (0, .ref (B + a0)), (2, .ref (B + a2)), (3, .int a3), (4, .int a4), (5, .int a5), (6, .long a6), (8, .int a8)]) hx hb d_Pm_choose_91 hl (by decide) rfl (fun ls hl => ?_)
  refine lv_lload hx hb d_Pm_choose_93 (lv_at hl 0 rfl) ?_
  refine lv_lload hx hb d_Pm_choose_95 (lv_at hl 7 rfl) ?_
  refine W.lcmp hx hb d_Pm_choose_97 ?_
  refine g_nI hf (fun x29 hf => ?_)
  refine lv_if_ge (tgt := 135) hx hb d_Pm_choose_98 (by decide) (fun hc => ?_) (fun hc => ?_)
  · have hf := cd_t hc hf
    exact c_Pm_choose_b135 ih36 C a0 a2 a3 a4 a5 a6 a8 w27 (lv_sub hl [2, 3, 4, 5, 6, 7, 8] rfl) hf hR hS
  have hf := cd_f hc hf
  refine lv_lload hx hb d_Pm_choose_101 (lv_at hl 0 rfl) ?_
  refine lv_lstore (lv' := [(6, .long x26), (10, .long x26), (9, .int z0), (0, .ref (B + a0)), (2, .ref (B + a2)), (3, .int a3), (4, .int a4), (5, .int a5), (8, .int a8)]) hx hb d_Pm_choose_103 hl (by decide) rfl (fun ls hl => ?_)
  refine lv_aload_n hx hb d_Pm_choose_105 rfl (lv_at hl 3 rfl) ?_
  have ⟨h30, hf⟩ := gd_e hf
  have ⟨x31, h32, hf⟩ := rr_e hf
  refine g_getR hx hb hts hown hK hR fl_Pm_15 (fun _ => rfl) h30 h32 d_Pm_choose_106 ?_
  refine lv_iconst (v := 0) hx hb d_Pm_choose_109 (by decide) ?_
  refine lv_aload_n hx hb d_Pm_choose_110 rfl (lv_at hl 3 rfl) ?_
  have ⟨x33, h34, hf⟩ := rr_e hf
  refine g_getR hx hb hts hown hK hR fl_Pm_21 (fun _ => rfl) h30 h34 d_Pm_choose_111 ?_
  refine lv_iconst (v := 0) hx hb d_Pm_choose_114 (by decide) ?_
  refine lv_bipush (v := 6) hx hb d_Pm_choose_115 (by decide) ?_
  have ⟨h35, hf⟩ := gd_e hf
  have ⟨h36, hf⟩ := gd_e hf
  have ⟨h37, hf⟩ := gd_e hf
  have ⟨h38, hf⟩ := gd_e hf
  refine g_copyI hx hb (hml.trans hl.1.symm) hts hown hK hR hS m_704 m_706 m_705 m_20 h35 h36 (by decide) (by decide) (by decide) h37 h38 (Nat.le_of_ble_eq_true rfl) (Nat.le_of_ble_eq_true rfl) d_Pm_choose_117 (fun H locs hR hS => ?_)
  refine g_nW hf hR (fun w39 hf hR => ?_)
  refine lv_aload_n hx hb d_Pm_choose_120 rfl (lv_at hl 3 rfl) ?_
  have ⟨h40, hf⟩ := gd_e hf
  have ⟨x41, h42, hf⟩ := rr_e hf
  refine g_getR hx hb hts hown hK hR fl_Pm_18 (fun _ => rfl) h40 h42 d_Pm_choose_121 ?_
  refine lv_iconst (v := 0) hx hb d_Pm_choose_124 (by decide) ?_
  refine lv_aload_n hx hb d_Pm_choose_125 rfl (lv_at hl 3 rfl) ?_
  have ⟨x43, h44, hf⟩ := rr_e hf
  refine g_getR hx hb hts hown hK hR fl_Pm_24 (fun _ => rfl) h40 h44 d_Pm_choose_126 ?_
  refine lv_iconst (v := 0) hx hb d_Pm_choose_129 (by decide) ?_
  refine lv_bipush (v := 6) hx hb d_Pm_choose_130 (by decide) ?_
  have ⟨h45, hf⟩ := gd_e hf
  have ⟨h46, hf⟩ := gd_e hf
  have ⟨h47, hf⟩ := gd_e hf
  have ⟨h48, hf⟩ := gd_e hf
  refine g_copyI hx hb (hml.trans hl.1.symm) hts hown hK hR hS m_704 m_706 m_705 m_20 h45 h46 (by decide) (by decide) (by decide) h47 h48 (Nat.le_of_ble_eq_true rfl) (Nat.le_of_ble_eq_true rfl) d_Pm_choose_132 (fun H locs hR hS => ?_)
  refine g_nW hf hR (fun w49 hf hR => ?_)
  exact c_Pm_choose_b135 ih36 C a0 a2 a3 a4 a5 x26 a8 w49 (lv_sub hl [3, 4, 5, 6, 7, 0, 8] rfl) hf hR hS
set_option maxRecDepth 20000 in
theorem c_Pm_choose_b67 {r : Int32} {wz : gW} {rec36 : Nat × Nat × Int32 × Int32 × Int32 × Int64 × Int32 × gW → Option (Int32 × gW)} (ih36 : ∀ (a0 : Nat) (a2 : Nat) (a3 : Int32) (a4 : Int32) (a5 : Int32) (a6 : Int64) (a8 : Int32) (w : gW) (ls : Array Slot) (H : Heap) (locs : List Loc), rec36 (a0, a2, a3, a4, a5, a6, a8, w) = some (r, wz) → lv_has ls 12 [(0, .ref (B + a0)), (2, .ref (B + a2)), (3, .int a3), (4, .int a4), (5, .int a5), (6, .long a6), (8, .int a8)] → gRep D cA B w H → va_S (gA B) s.heap H locs → W p l e ({ frames := 6, cells := 0, slots := 0, locals := 162 } : Room) s m args below meth c H locs 0 0 (MQ below (gQi D cA B r wz) args s 0 0 (gA B)) (F0 m 36 ls [])) (C : gC p s m args meth c "RidCoppers$Payment" b_Pm_choose 12 (some .boolean) D cA oc B) (a0 : Nat) (a2 : Nat) (a3 : Int32) (a4 : Int32) (a5 : Int32) (a6 : Int64) (a8 : Int32) (w : gW) {ls : Array Slot} {H : Heap} {locs : List Loc} (hl : lv_has ls 12 [(0, .ref (B + a0)), (2, .ref (B + a2)), (3, .int a3), (4, .int a4), (5, .int a5), (6, .long a6), (8, .int a8)]) (hf : f_Pm_choose_b67 N rec36 a0 a2 a3 a4 a5 a6 a8 w = some (r, wz)) (hR : gRep D cA B w H) (hS : va_S (gA B) s.heap H locs) : W p l e ({ frames := 6, cells := 0, slots := 0, locals := 162 } : Room) s m args below meth c H locs 0 0 (MQ below (gQi D cA B r wz) args s 0 0 (gA B)) (F0 m 67 ls []) := by
  obtain ⟨hx, hb, hml, hown, hts, hr, hlocks, hK, hBs⟩ := id C
  unfold f_Pm_choose_b67 at hf
  refine lv_iconst (v := 1) hx hb d_Pm_choose_67 (by decide) ?_
  refine lv_goto (tgt := 72) hx hb d_Pm_choose_68 (by decide) ?_
  exact c_Pm_choose_b72 ih36 C a0 a2 a3 a4 a5 a6 a8 1 w (lv_sub hl [0, 1, 2, 3, 4, 5, 6] rfl) hf hR hS
set_option maxRecDepth 20000 in
theorem c_Pm_choose_b71 {r : Int32} {wz : gW} {rec36 : Nat × Nat × Int32 × Int32 × Int32 × Int64 × Int32 × gW → Option (Int32 × gW)} (ih36 : ∀ (a0 : Nat) (a2 : Nat) (a3 : Int32) (a4 : Int32) (a5 : Int32) (a6 : Int64) (a8 : Int32) (w : gW) (ls : Array Slot) (H : Heap) (locs : List Loc), rec36 (a0, a2, a3, a4, a5, a6, a8, w) = some (r, wz) → lv_has ls 12 [(0, .ref (B + a0)), (2, .ref (B + a2)), (3, .int a3), (4, .int a4), (5, .int a5), (6, .long a6), (8, .int a8)] → gRep D cA B w H → va_S (gA B) s.heap H locs → W p l e ({ frames := 6, cells := 0, slots := 0, locals := 162 } : Room) s m args below meth c H locs 0 0 (MQ below (gQi D cA B r wz) args s 0 0 (gA B)) (F0 m 36 ls [])) (C : gC p s m args meth c "RidCoppers$Payment" b_Pm_choose 12 (some .boolean) D cA oc B) (a0 : Nat) (a2 : Nat) (a3 : Int32) (a4 : Int32) (a5 : Int32) (a6 : Int64) (a8 : Int32) (w : gW) {ls : Array Slot} {H : Heap} {locs : List Loc} (hl : lv_has ls 12 [(0, .ref (B + a0)), (2, .ref (B + a2)), (3, .int a3), (4, .int a4), (5, .int a5), (6, .long a6), (8, .int a8)]) (hf : f_Pm_choose_b71 N rec36 a0 a2 a3 a4 a5 a6 a8 w = some (r, wz)) (hR : gRep D cA B w H) (hS : va_S (gA B) s.heap H locs) : W p l e ({ frames := 6, cells := 0, slots := 0, locals := 162 } : Room) s m args below meth c H locs 0 0 (MQ below (gQi D cA B r wz) args s 0 0 (gA B)) (F0 m 71 ls []) := by
  obtain ⟨hx, hb, hml, hown, hts, hr, hlocks, hK, hBs⟩ := id C
  unfold f_Pm_choose_b71 at hf
  refine lv_iconst (v := 0) hx hb d_Pm_choose_71 (by decide) ?_
  exact c_Pm_choose_b72 ih36 C a0 a2 a3 a4 a5 a6 a8 0 w (lv_sub hl [0, 1, 2, 3, 4, 5, 6] rfl) hf hR hS
set_option maxRecDepth 20000 in
theorem c_Pm_choose_b36 {r : Int32} {wz : gW} {rec36 : Nat × Nat × Int32 × Int32 × Int32 × Int64 × Int32 × gW → Option (Int32 × gW)} (ih36 : ∀ (a0 : Nat) (a2 : Nat) (a3 : Int32) (a4 : Int32) (a5 : Int32) (a6 : Int64) (a8 : Int32) (w : gW) (ls : Array Slot) (H : Heap) (locs : List Loc), rec36 (a0, a2, a3, a4, a5, a6, a8, w) = some (r, wz) → lv_has ls 12 [(0, .ref (B + a0)), (2, .ref (B + a2)), (3, .int a3), (4, .int a4), (5, .int a5), (6, .long a6), (8, .int a8)] → gRep D cA B w H → va_S (gA B) s.heap H locs → W p l e ({ frames := 6, cells := 0, slots := 0, locals := 162 } : Room) s m args below meth c H locs 0 0 (MQ below (gQi D cA B r wz) args s 0 0 (gA B)) (F0 m 36 ls [])) (C : gC p s m args meth c "RidCoppers$Payment" b_Pm_choose 12 (some .boolean) D cA oc B) (a0 : Nat) (a2 : Nat) (a3 : Int32) (a4 : Int32) (a5 : Int32) (a6 : Int64) (a8 : Int32) (w : gW) {ls : Array Slot} {H : Heap} {locs : List Loc} (hl : lv_has ls 12 [(0, .ref (B + a0)), (2, .ref (B + a2)), (3, .int a3), (4, .int a4), (5, .int a5), (6, .long a6), (8, .int a8)]) (hf : f_Pm_choose_b36 N rec36 a0 a2 a3 a4 a5 a6 a8 w = some (r, wz)) (hR : gRep D cA B w H) (hS : va_S (gA B) s.heap H locs) : W p l e ({ frames := 6, cells := 0, slots := 0, locals := 162 } : Room) s m args below meth c H locs 0 0 (MQ below (gQi D cA B r wz) args s 0 0 (gA B)) (F0 m 36 ls []) := by
  obtain ⟨hx, hb, hml, hown, hts, hr, hlocks, hK, hBs⟩ := id C
  unfold f_Pm_choose_b36 at hf
  refine lv_iload hx hb d_Pm_choose_36 (lv_at hl 6 rfl) ?_
  refine lv_iload hx hb d_Pm_choose_38 (lv_at hl 3 rfl) ?_
  refine lv_icmp_ge (tgt := 145) hx hb d_Pm_choose_40 (by decide) (fun hc => ?_) (fun hc => ?_)
  · have hf := cd_t hc hf
    refine lv_lload hx hb d_Pm_choose_145 (lv_at hl 5 rfl) ?_
    refine lv_ldc2 hx hb hown (hts _ m_657) d_Pm_choose_147 ?_
    refine W.lcmp hx hb d_Pm_choose_150 ?_
    refine g_nI hf (fun x10 hf => ?_)
    refine lv_if_ne (tgt := 156) hx hb d_Pm_choose_151 (by decide) (fun hc => ?_) (fun hc => ?_)
    · have hf := cd_f hc hf
      refine lv_aload_n hx hb d_Pm_choose_156 rfl (lv_at hl 0 rfl) ?_
      have ⟨h14, hf⟩ := gd_e hf
      have ⟨x11, w12, h13, hf⟩ := kl_e hf
      refine g_kv0 (g_rV (As := []) (rest := []) hx hb hml hown hts hK hR hS (c_Pm_standAtBest l D cA oc B N a0 w h13) I_Pm_standAtBest m_711 mp_24 (gRecv hK hR (ci := 10) rfl h14) rfl rfl (Nat.le_of_ble_eq_true rfl) hl.1 ⟨Nat.le_of_ble_eq_true rfl, Nat.le_of_ble_eq_true rfl⟩ ⟨Nat.le_of_ble_eq_true rfl, Nat.le_of_ble_eq_true rfl⟩ d_Pm_choose_157) hS (fun H locs hR hS => ?_)
      refine lv_iconst (v := 1) hx hb d_Pm_choose_160 (by decide) ?_
      exact g_iret hx hb hr hlocks hR hS hf rfl d_Pm_choose_161
    have hf := cd_t hc hf
    refine lv_iconst (v := 0) hx hb d_Pm_choose_154 (by decide) ?_
    exact g_iret hx hb hr hlocks hR hS hf rfl d_Pm_choose_155
  have hf := cd_f hc hf
  refine lv_aload_n hx hb d_Pm_choose_43 rfl (lv_at hl 0 rfl) ?_
  have ⟨h15, hf⟩ := gd_e hf
  refine g_getI hx hb hts hown hK hR fl_Pm_39 (fun _ => rfl) h15 d_Pm_choose_44 ?_
  refine g_nI hf (fun x16 hf => ?_)
  refine lv_iload_n hx hb d_Pm_choose_47 rfl (lv_at hl 2 rfl) ?_
  refine lv_icmp_lt (tgt := 67) hx hb d_Pm_choose_48 (by decide) (fun hc => ?_) (fun hc => ?_)
  · have hf := cd_t hc hf
    exact c_Pm_choose_b67 ih36 C a0 a2 a3 a4 a5 a6 a8 w (lv_sub hl [0, 1, 2, 3, 4, 5, 6] rfl) hf hR hS
  have hf := cd_f hc hf
  refine lv_iload hx hb d_Pm_choose_51 (lv_at hl 4 rfl) ?_
  refine lv_if_eq (tgt := 71) hx hb d_Pm_choose_53 (by decide) (fun hc => ?_) (fun hc => ?_)
  · have hf := cd_t hc hf
    exact c_Pm_choose_b71 ih36 C a0 a2 a3 a4 a5 a6 a8 w (lv_sub hl [0, 1, 2, 3, 4, 5, 6] rfl) hf hR hS
  have hf := cd_f hc hf
  refine lv_aload_n hx hb d_Pm_choose_56 rfl (lv_at hl 1 rfl) ?_
  refine lv_aload_n hx hb d_Pm_choose_57 rfl (lv_at hl 0 rfl) ?_
  have ⟨x50, w51, h52, hf⟩ := kl_e hf
  refine g_kl0 (g_rv_rank (rest := []) hx hb hml hown hts hK hR hS h52 m_658 rfl (Nat.le_of_ble_eq_true rfl) hl.1 ⟨Nat.le_of_ble_eq_true rfl, Nat.le_of_ble_eq_true rfl⟩ ⟨Nat.le_of_ble_eq_true rfl, Nat.le_of_ble_eq_true rfl⟩ d_Pm_choose_58) hS (fun H locs hR hS => ?_)
  refine lv_lload hx hb d_Pm_choose_61 (lv_at hl 5 rfl) ?_
  refine W.lcmp hx hb d_Pm_choose_63 ?_
  refine g_nI hf (fun x53 hf => ?_)
  refine lv_if_lt (tgt := 71) hx hb d_Pm_choose_64 (by decide) (fun hc => ?_) (fun hc => ?_)
  · have hf := cd_t hc hf
    exact c_Pm_choose_b71 ih36 C a0 a2 a3 a4 a5 a6 a8 w51 (lv_sub hl [0, 1, 2, 3, 4, 5, 6] rfl) hf hR hS
  have hf := cd_f hc hf
  exact c_Pm_choose_b67 ih36 C a0 a2 a3 a4 a5 a6 a8 w51 (lv_sub hl [0, 1, 2, 3, 4, 5, 6] rfl) hf hR hS
theorem c_Pm_choose_l36 {r : Int32} {wz : gW} (C : gC p s m args meth c "RidCoppers$Payment" b_Pm_choose 12 (some .boolean) D cA oc B) (a0 : Nat) (a2 : Nat) (a3 : Int32) (a4 : Int32) (a5 : Int32) (a6 : Int64) (a8 : Int32) (w : gW) {ls : Array Slot} {H : Heap} {locs : List Loc} (hl : lv_has ls 12 [(0, .ref (B + a0)), (2, .ref (B + a2)), (3, .int a3), (4, .int a4), (5, .int a5), (6, .long a6), (8, .int a8)]) (hf : f_Pm_choose_l36 N a0 a2 a3 a4 a5 a6 a8 w = some (r, wz)) (hR : gRep D cA B w H) (hS : va_S (gA B) s.heap H locs) : W p l e ({ frames := 6, cells := 0, slots := 0, locals := 162 } : Room) s m args below meth c H locs 0 0 (MQ below (gQi D cA B r wz) args s 0 0 (gA B)) (F0 m 36 ls []) := by
  unfold f_Pm_choose_l36 at hf
  suffices hh : ∀ n : Nat, ∀ (a0 : Nat) (a2 : Nat) (a3 : Int32) (a4 : Int32) (a5 : Int32) (a6 : Int64) (a8 : Int32) (w : gW) (ls : Array Slot) (H : Heap) (locs : List Loc), itr (fun rec (q : Nat × Nat × Int32 × Int32 × Int32 × Int64 × Int32 × gW) => f_Pm_choose_b36 N rec q.1 q.2.1 q.2.2.1 q.2.2.2.1 q.2.2.2.2.1 q.2.2.2.2.2.1 q.2.2.2.2.2.2.1 q.2.2.2.2.2.2.2) n (a0, a2, a3, a4, a5, a6, a8, w) = some (r, wz) → lv_has ls 12 [(0, .ref (B + a0)), (2, .ref (B + a2)), (3, .int a3), (4, .int a4), (5, .int a5), (6, .long a6), (8, .int a8)] → gRep D cA B w H → va_S (gA B) s.heap H locs → W p l e ({ frames := 6, cells := 0, slots := 0, locals := 162 } : Room) s m args below meth c H locs 0 0 (MQ below (gQi D cA B r wz) args s 0 0 (gA B)) (F0 m 36 ls []) from hh N a0 a2 a3 a4 a5 a6 a8 w ls H locs hf hl hR hS
  intro n
  induction n with
  | zero => intro a0 a2 a3 a4 a5 a6 a8 w ls H locs hf; cases hf
  | succ n ihn =>
    intro a0 a2 a3 a4 a5 a6 a8 w ls H locs hf hl hR hS
    exact c_Pm_choose_b36 (N := N) ihn C a0 a2 a3 a4 a5 a6 a8 w hl ((itr_s _ _ _).symm.trans hf) hR hS
set_option maxRecDepth 20000 in
theorem c_Pm_choose_b0 {r : Int32} {wz : gW} (C : gC p s m args meth c "RidCoppers$Payment" b_Pm_choose 12 (some .boolean) D cA oc B) (a0 : Nat) (a1 : Nat) (a2 : Nat) (a3 : Int32) (w : gW) {ls : Array Slot} {H : Heap} {locs : List Loc} (hl : lv_has ls 12 [(0, .ref (B + a0)), (1, .ref (B + a1)), (2, .ref (B + a2)), (3, .int a3)]) (hf : f_Pm_choose_b0 N a0 a1 a2 a3 w = some (r, wz)) (hR : gRep D cA B w H) (hS : va_S (gA B) s.heap H locs) : W p l e ({ frames := 6, cells := 0, slots := 0, locals := 162 } : Room) s m args below meth c H locs 0 0 (MQ below (gQi D cA B r wz) args s 0 0 (gA B)) (F0 m 0 ls []) := by
  obtain ⟨hx, hb, hml, hown, hts, hr, hlocks, hK, hBs⟩ := id C
  unfold f_Pm_choose_b0 at hf
  refine lv_aload_n hx hb d_Pm_choose_0 rfl (lv_at hl 0 rfl) ?_
  refine lv_aload_n hx hb d_Pm_choose_1 rfl (lv_at hl 1 rfl) ?_
  refine lv_aload_n hx hb d_Pm_choose_2 rfl (lv_at hl 2 rfl) ?_
  refine lv_iconst (v := 1) hx hb d_Pm_choose_3 (by decide) ?_
  have ⟨h4, hf⟩ := gd_e hf
  have ⟨x1, w2, h3, hf⟩ := kl_e hf
  refine g_ki0 (g_rV (As := [.ref (B + a1), .ref (B + a2), .int 1]) (rest := []) hx hb hml hown hts hK hR hS (c_Pm_begin l D cA oc B N a0 a1 a2 1 w h3) I_Pm_begin m_622 mp_19 (gRecv hK hR (ci := 10) rfl h4) rfl rfl (Nat.le_of_ble_eq_true rfl) hl.1 ⟨Nat.le_of_ble_eq_true rfl, Nat.le_of_ble_eq_true rfl⟩ ⟨Nat.le_of_ble_eq_true rfl, Nat.le_of_ble_eq_true rfl⟩ d_Pm_choose_4) hS (fun H locs hR hS => ?_)
  refine lv_istore (lv' := [(4, .int x1), (0, .ref (B + a0)), (1, .ref (B + a1)), (2, .ref (B + a2)), (3, .int a3)]) hx hb d_Pm_choose_7 hl (by decide) rfl (fun ls hl => ?_)
  refine lv_aload_n hx hb d_Pm_choose_9 rfl (lv_at hl 1 rfl) ?_
  refine lv_iload_n hx hb d_Pm_choose_10 rfl (lv_at hl 4 rfl) ?_
  have ⟨h5, hf⟩ := gd_e hf
  refine g_putI hx hb hts hown hK hR hS pf_Pm_35 (fun _ => rfl) rfl rfl h5 d_Pm_choose_11 (fun H locs hR hS => ?_)
  refine g_nW hf hR (fun w6 hf hR => ?_)
  refine lv_aload_n hx hb d_Pm_choose_14 rfl (lv_at hl 3 rfl) ?_
  have ⟨x7, w8, h9, hf⟩ := kl_e hf
  refine g_ki0 (g_rv_thinksOfWeight (rest := []) hx hb hml hown hts hK hR hS h9 m_644 rfl (Nat.le_of_ble_eq_true rfl) hl.1 ⟨Nat.le_of_ble_eq_true rfl, Nat.le_of_ble_eq_true rfl⟩ ⟨Nat.le_of_ble_eq_true rfl, Nat.le_of_ble_eq_true rfl⟩ d_Pm_choose_15) hS (fun H locs hR hS => ?_)
  refine lv_if_ne (tgt := 25) hx hb d_Pm_choose_18 (by decide) (fun hc => ?_) (fun hc => ?_)
  · have hf := cd_f hc hf
    refine lv_iconst (v := 0) hx hb d_Pm_choose_25 (by decide) ?_
    refine lv_istore (lv' := [(5, .int 0), (4, .int x1), (0, .ref (B + a0)), (1, .ref (B + a1)), (2, .ref (B + a2)), (3, .int a3)]) hx hb d_Pm_choose_26 hl (by decide) rfl (fun ls hl => ?_)
    refine lv_ldc2 hx hb hown (hts _ m_657) d_Pm_choose_28 ?_
    refine lv_lstore (lv' := [(6, .long 1000000000), (5, .int 0), (4, .int x1), (0, .ref (B + a0)), (1, .ref (B + a1)), (2, .ref (B + a2)), (3, .int a3)]) hx hb d_Pm_choose_31 hl (by decide) rfl (fun ls hl => ?_)
    refine lv_iconst (v := 0) hx hb d_Pm_choose_33 (by decide) ?_
    refine lv_istore (lv' := [(8, .int 0), (6, .long 1000000000), (5, .int 0), (4, .int x1), (0, .ref (B + a0)), (1, .ref (B + a1)), (2, .ref (B + a2)), (3, .int a3)]) hx hb d_Pm_choose_34 hl (by decide) rfl (fun ls hl => ?_)
    exact c_Pm_choose_l36 C a0 a2 a3 x1 0 1000000000 0 w8 (lv_sub hl [4, 6, 7, 3, 2, 1, 0] rfl) hf hR hS
  have hf := cd_t hc hf
  refine lv_iconst (v := 1) hx hb d_Pm_choose_21 (by decide) ?_
  refine lv_goto (tgt := 26) hx hb d_Pm_choose_22 (by decide) ?_
  refine lv_istore (lv' := [(5, .int 1), (4, .int x1), (0, .ref (B + a0)), (1, .ref (B + a1)), (2, .ref (B + a2)), (3, .int a3)]) hx hb d_Pm_choose_26 hl (by decide) rfl (fun ls hl => ?_)
  refine lv_ldc2 hx hb hown (hts _ m_657) d_Pm_choose_28 ?_
  refine lv_lstore (lv' := [(6, .long 1000000000), (5, .int 1), (4, .int x1), (0, .ref (B + a0)), (1, .ref (B + a1)), (2, .ref (B + a2)), (3, .int a3)]) hx hb d_Pm_choose_31 hl (by decide) rfl (fun ls hl => ?_)
  refine lv_iconst (v := 0) hx hb d_Pm_choose_33 (by decide) ?_
  refine lv_istore (lv' := [(8, .int 0), (6, .long 1000000000), (5, .int 1), (4, .int x1), (0, .ref (B + a0)), (1, .ref (B + a1)), (2, .ref (B + a2)), (3, .int a3)]) hx hb d_Pm_choose_34 hl (by decide) rfl (fun ls hl => ?_)
  exact c_Pm_choose_l36 C a0 a2 a3 x1 1 1000000000 0 w8 (lv_sub hl [4, 6, 7, 3, 2, 1, 0] rfl) hf hR hS
theorem c_Pm_choose (l : Launch) (D : va_G) (cA : Nat → ClassId) (oc : gO) (B N : Nat) (a0 : Nat) (a1 : Nat) (a2 : Nat) (a3 : Int32) (w : gW) {wz : gW} {r : Int32} (hf : f_Pm_choose N a0 a1 a2 a3 w = some (r, wz)) : Met l y_Pm_choose (Cond.code y_Pm_choose b_Pm_choose 12 (some .boolean) :: lw_good) ({ frames := 6, cells := 0, slots := 0, locals := 162 } : Room) (gPre D cA oc B [.ref (B + a0), .ref (B + a1), .ref (B + a2), .int a3] w) (gQi D cA B r wz) 0 0 (gA B) := by
  refine Met.ofW (cc := b_Pm_choose) (maxL := 12) (ret := (some .boolean)) (by decide +kernel) rfl ?_
  intro p e s m args below meth c s₁ Bd hml hv
  obtain ⟨hargs, C, hR⟩ := gC.enter (l := l) rfl Bd hml hv
  subst hargs
  have hl := lv_entry ([.ref (B + a0), .ref (B + a1), .ref (B + a2), .int a3]) (n := 12) (Nat.le_of_ble_eq_true rfl)
  rw [lg_entry_eq]
  generalize (lg_sl ([.ref (B + a0), .ref (B + a1), .ref (B + a2), .int a3]) ++ List.replicate (12 - (lg_sl ([.ref (B + a0), .ref (B + a1), .ref (B + a2), .int a3])).length) Slot.unset).toArray = ls at hl ⊢
  have hl : lv_has ls 12 [(0, .ref (B + a0)), (1, .ref (B + a1)), (2, .ref (B + a2)), (3, .int a3)] := hl
  exact c_Pm_choose_b0 C a0 a1 a2 a3 w (lv_sub hl [0, 1, 2, 3] rfl) hf hR va_S.rf
theorem d_Pm_canPay_0 : decode b_Pm_canPay 0 = .ok (.aload_n 0, 1) := by decide +kernel
theorem d_Pm_canPay_1 : decode b_Pm_canPay 1 = .ok (.aload_n 1, 1) := by decide +kernel
theorem d_Pm_canPay_2 : decode b_Pm_canPay 2 = .ok (.aload_n 2, 1) := by decide +kernel
theorem d_Pm_canPay_3 : decode b_Pm_canPay 3 = .ok (.iconst 1, 1) := by decide +kernel
theorem d_Pm_canPay_4 : decode b_Pm_canPay 4 = .ok (.invokevirtual 45, 3) := by decide +kernel
theorem d_Pm_canPay_7 : decode b_Pm_canPay 7 = .ok (.istore 4, 2) := by decide +kernel
theorem d_Pm_canPay_9 : decode b_Pm_canPay 9 = .ok (.aload_n 0, 1) := by decide +kernel
theorem d_Pm_canPay_10 : decode b_Pm_canPay 10 = .ok (.iload_n 3, 1) := by decide +kernel
theorem d_Pm_canPay_11 : decode b_Pm_canPay 11 = .ok (.putfield 35, 3) := by decide +kernel
theorem d_Pm_canPay_14 : decode b_Pm_canPay 14 = .ok (.iconst 0, 1) := by decide +kernel
theorem d_Pm_canPay_15 : decode b_Pm_canPay 15 = .ok (.istore 5, 2) := by decide +kernel
theorem d_Pm_canPay_17 : decode b_Pm_canPay 17 = .ok (.iload 5, 2) := by decide +kernel
theorem d_Pm_canPay_19 : decode b_Pm_canPay 19 = .ok (.iload 4, 2) := by decide +kernel
theorem d_Pm_canPay_21 : decode b_Pm_canPay 21 = .ok (.if_icmp .ge 22, 3) := by decide +kernel
theorem d_Pm_canPay_24 : decode b_Pm_canPay 24 = .ok (.aload_n 0, 1) := by decide +kernel
theorem d_Pm_canPay_25 : decode b_Pm_canPay 25 = .ok (.invokevirtual 61, 3) := by decide +kernel
theorem d_Pm_canPay_28 : decode b_Pm_canPay 28 = .ok (.ifCond .eq 5, 3) := by decide +kernel
theorem d_Pm_canPay_31 : decode b_Pm_canPay 31 = .ok (.iconst 1, 1) := by decide +kernel
theorem d_Pm_canPay_32 : decode b_Pm_canPay 32 = .ok (.ireturn, 1) := by decide +kernel
theorem d_Pm_canPay_33 : decode b_Pm_canPay 33 = .ok (.aload_n 0, 1) := by decide +kernel
theorem d_Pm_canPay_34 : decode b_Pm_canPay 34 = .ok (.invokevirtual 70, 3) := by decide +kernel
theorem d_Pm_canPay_37 : decode b_Pm_canPay 37 = .ok (.iinc 5 1, 3) := by decide +kernel
theorem d_Pm_canPay_40 : decode b_Pm_canPay 40 = .ok (.goto (-23), 3) := by decide +kernel
theorem d_Pm_canPay_43 : decode b_Pm_canPay 43 = .ok (.iconst 0, 1) := by decide +kernel
theorem d_Pm_canPay_44 : decode b_Pm_canPay 44 = .ok (.ireturn, 1) := by decide +kernel
set_option maxRecDepth 20000 in
theorem c_Pm_canPay_b17 {r : Int32} {wz : gW} {rec17 : Nat × Int32 × Int32 × gW → Option (Int32 × gW)} (ih17 : ∀ (a0 : Nat) (a4 : Int32) (a5 : Int32) (w : gW) (ls : Array Slot) (H : Heap) (locs : List Loc), rec17 (a0, a4, a5, w) = some (r, wz) → lv_has ls 6 [(0, .ref (B + a0)), (4, .int a4), (5, .int a5)] → gRep D cA B w H → va_S (gA B) s.heap H locs → W p l e ({ frames := 6, cells := 0, slots := 0, locals := 162 } : Room) s m args below meth c H locs 0 0 (MQ below (gQi D cA B r wz) args s 0 0 (gA B)) (F0 m 17 ls [])) (C : gC p s m args meth c "RidCoppers$Payment" b_Pm_canPay 6 (some .boolean) D cA oc B) (a0 : Nat) (a4 : Int32) (a5 : Int32) (w : gW) {ls : Array Slot} {H : Heap} {locs : List Loc} (hl : lv_has ls 6 [(0, .ref (B + a0)), (4, .int a4), (5, .int a5)]) (hf : f_Pm_canPay_b17 N rec17 a0 a4 a5 w = some (r, wz)) (hR : gRep D cA B w H) (hS : va_S (gA B) s.heap H locs) : W p l e ({ frames := 6, cells := 0, slots := 0, locals := 162 } : Room) s m args below meth c H locs 0 0 (MQ below (gQi D cA B r wz) args s 0 0 (gA B)) (F0 m 17 ls []) := by
  obtain ⟨hx, hb, hml, hown, hts, hr, hlocks, hK, hBs⟩ := id C
  unfold f_Pm_canPay_b17 at hf
  refine lv_iload hx hb d_Pm_canPay_17 (lv_at hl 2 rfl) ?_
  refine lv_iload hx hb d_Pm_canPay_19 (lv_at hl 1 rfl) ?_
  refine lv_icmp_ge (tgt := 43) hx hb d_Pm_canPay_21 (by decide) (fun hc => ?_) (fun hc => ?_)
  · have hf := cd_t hc hf
    refine lv_iconst (v := 0) hx hb d_Pm_canPay_43 (by decide) ?_
    exact g_iret hx hb hr hlocks hR hS hf rfl d_Pm_canPay_44
  have hf := cd_f hc hf
  refine lv_aload_n hx hb d_Pm_canPay_24 rfl (lv_at hl 0 rfl) ?_
  have ⟨h10, hf⟩ := gd_e hf
  have ⟨x7, w8, h9, hf⟩ := kl_e hf
  refine g_ki0 (g_rV (As := []) (rest := []) hx hb hml hown hts hK hR hS (c_Pm_pays l D cA oc B N a0 w h9) I_Pm_pays m_695 mp_21 (gRecv hK hR (ci := 10) rfl h10) rfl rfl (Nat.le_of_ble_eq_true rfl) hl.1 ⟨Nat.le_of_ble_eq_true rfl, Nat.le_of_ble_eq_true rfl⟩ ⟨Nat.le_of_ble_eq_true rfl, Nat.le_of_ble_eq_true rfl⟩ d_Pm_canPay_25) hS (fun H locs hR hS => ?_)
  refine lv_if_eq (tgt := 33) hx hb d_Pm_canPay_28 (by decide) (fun hc => ?_) (fun hc => ?_)
  · have hf := cd_t hc hf
    refine lv_aload_n hx hb d_Pm_canPay_33 rfl (lv_at hl 0 rfl) ?_
    have ⟨h14, hf⟩ := gd_e hf
    have ⟨x11, w12, h13, hf⟩ := kl_e hf
    refine g_kv0 (g_rV (As := []) (rest := []) hx hb hml hown hts hK hR hS (c_Pm_advance l D cA oc B N a0 w8 h13) I_Pm_advance m_707 mp_23 (gRecv hK hR (ci := 10) rfl h14) rfl rfl (Nat.le_of_ble_eq_true rfl) hl.1 ⟨Nat.le_of_ble_eq_true rfl, Nat.le_of_ble_eq_true rfl⟩ ⟨Nat.le_of_ble_eq_true rfl, Nat.le_of_ble_eq_true rfl⟩ d_Pm_canPay_34) hS (fun H locs hR hS => ?_)
    refine g_iinc (lv' := fun x15 => [(5, .int x15), (0, .ref (B + a0)), (4, .int a4)]) hf hx hb d_Pm_canPay_37 hl (k := 2) rfl (by decide) (by decide) (fun _ => rfl) (fun x15 ls hf hl => ?_)
    refine lv_goto (tgt := 17) hx hb d_Pm_canPay_40 (by decide) ?_
    exact ih17 a0 a4 x15 w12 _ _ _ hf (lv_sub hl [1, 2, 0] rfl) hR hS
  have hf := cd_f hc hf
  refine lv_iconst (v := 1) hx hb d_Pm_canPay_31 (by decide) ?_
  exact g_iret hx hb hr hlocks hR hS hf rfl d_Pm_canPay_32
theorem c_Pm_canPay_l17 {r : Int32} {wz : gW} (C : gC p s m args meth c "RidCoppers$Payment" b_Pm_canPay 6 (some .boolean) D cA oc B) (a0 : Nat) (a4 : Int32) (a5 : Int32) (w : gW) {ls : Array Slot} {H : Heap} {locs : List Loc} (hl : lv_has ls 6 [(0, .ref (B + a0)), (4, .int a4), (5, .int a5)]) (hf : f_Pm_canPay_l17 N a0 a4 a5 w = some (r, wz)) (hR : gRep D cA B w H) (hS : va_S (gA B) s.heap H locs) : W p l e ({ frames := 6, cells := 0, slots := 0, locals := 162 } : Room) s m args below meth c H locs 0 0 (MQ below (gQi D cA B r wz) args s 0 0 (gA B)) (F0 m 17 ls []) := by
  unfold f_Pm_canPay_l17 at hf
  suffices hh : ∀ n : Nat, ∀ (a0 : Nat) (a4 : Int32) (a5 : Int32) (w : gW) (ls : Array Slot) (H : Heap) (locs : List Loc), itr (fun rec (q : Nat × Int32 × Int32 × gW) => f_Pm_canPay_b17 N rec q.1 q.2.1 q.2.2.1 q.2.2.2) n (a0, a4, a5, w) = some (r, wz) → lv_has ls 6 [(0, .ref (B + a0)), (4, .int a4), (5, .int a5)] → gRep D cA B w H → va_S (gA B) s.heap H locs → W p l e ({ frames := 6, cells := 0, slots := 0, locals := 162 } : Room) s m args below meth c H locs 0 0 (MQ below (gQi D cA B r wz) args s 0 0 (gA B)) (F0 m 17 ls []) from hh N a0 a4 a5 w ls H locs hf hl hR hS
  intro n
  induction n with
  | zero => intro a0 a4 a5 w ls H locs hf; cases hf
  | succ n ihn =>
    intro a0 a4 a5 w ls H locs hf hl hR hS
    exact c_Pm_canPay_b17 (N := N) ihn C a0 a4 a5 w hl ((itr_s _ _ _).symm.trans hf) hR hS
set_option maxRecDepth 20000 in
theorem c_Pm_canPay_b0 {r : Int32} {wz : gW} (C : gC p s m args meth c "RidCoppers$Payment" b_Pm_canPay 6 (some .boolean) D cA oc B) (a0 : Nat) (a1 : Nat) (a2 : Nat) (a3 : Int32) (w : gW) {ls : Array Slot} {H : Heap} {locs : List Loc} (hl : lv_has ls 6 [(0, .ref (B + a0)), (1, .ref (B + a1)), (2, .ref (B + a2)), (3, .int a3)]) (hf : f_Pm_canPay_b0 N a0 a1 a2 a3 w = some (r, wz)) (hR : gRep D cA B w H) (hS : va_S (gA B) s.heap H locs) : W p l e ({ frames := 6, cells := 0, slots := 0, locals := 162 } : Room) s m args below meth c H locs 0 0 (MQ below (gQi D cA B r wz) args s 0 0 (gA B)) (F0 m 0 ls []) := by
  obtain ⟨hx, hb, hml, hown, hts, hr, hlocks, hK, hBs⟩ := id C
  unfold f_Pm_canPay_b0 at hf
  refine lv_aload_n hx hb d_Pm_canPay_0 rfl (lv_at hl 0 rfl) ?_
  refine lv_aload_n hx hb d_Pm_canPay_1 rfl (lv_at hl 1 rfl) ?_
  refine lv_aload_n hx hb d_Pm_canPay_2 rfl (lv_at hl 2 rfl) ?_
  refine lv_iconst (v := 1) hx hb d_Pm_canPay_3 (by decide) ?_
  have ⟨h4, hf⟩ := gd_e hf
  have ⟨x1, w2, h3, hf⟩ := kl_e hf
  refine g_ki0 (g_rV (As := [.ref (B + a1), .ref (B + a2), .int 1]) (rest := []) hx hb hml hown hts hK hR hS (c_Pm_begin l D cA oc B N a0 a1 a2 1 w h3) I_Pm_begin m_622 mp_19 (gRecv hK hR (ci := 10) rfl h4) rfl rfl (Nat.le_of_ble_eq_true rfl) hl.1 ⟨Nat.le_of_ble_eq_true rfl, Nat.le_of_ble_eq_true rfl⟩ ⟨Nat.le_of_ble_eq_true rfl, Nat.le_of_ble_eq_true rfl⟩ d_Pm_canPay_4) hS (fun H locs hR hS => ?_)
  refine lv_istore (lv' := [(4, .int x1), (0, .ref (B + a0)), (1, .ref (B + a1)), (2, .ref (B + a2)), (3, .int a3)]) hx hb d_Pm_canPay_7 hl (by decide) rfl (fun ls hl => ?_)
  refine lv_aload_n hx hb d_Pm_canPay_9 rfl (lv_at hl 1 rfl) ?_
  refine lv_iload_n hx hb d_Pm_canPay_10 rfl (lv_at hl 4 rfl) ?_
  have ⟨h5, hf⟩ := gd_e hf
  refine g_putI hx hb hts hown hK hR hS pf_Pm_35 (fun _ => rfl) rfl rfl h5 d_Pm_canPay_11 (fun H locs hR hS => ?_)
  refine g_nW hf hR (fun w6 hf hR => ?_)
  refine lv_iconst (v := 0) hx hb d_Pm_canPay_14 (by decide) ?_
  refine lv_istore (lv' := [(5, .int 0), (4, .int x1), (0, .ref (B + a0)), (1, .ref (B + a1)), (2, .ref (B + a2)), (3, .int a3)]) hx hb d_Pm_canPay_15 hl (by decide) rfl (fun ls hl => ?_)
  exact c_Pm_canPay_l17 C a0 x1 0 w6 (lv_sub hl [2, 1, 0] rfl) hf hR hS
theorem c_Pm_canPay (l : Launch) (D : va_G) (cA : Nat → ClassId) (oc : gO) (B N : Nat) (a0 : Nat) (a1 : Nat) (a2 : Nat) (a3 : Int32) (w : gW) {wz : gW} {r : Int32} (hf : f_Pm_canPay N a0 a1 a2 a3 w = some (r, wz)) : Met l y_Pm_canPay (Cond.code y_Pm_canPay b_Pm_canPay 6 (some .boolean) :: lw_good) ({ frames := 6, cells := 0, slots := 0, locals := 162 } : Room) (gPre D cA oc B [.ref (B + a0), .ref (B + a1), .ref (B + a2), .int a3] w) (gQi D cA B r wz) 0 0 (gA B) := by
  refine Met.ofW (cc := b_Pm_canPay) (maxL := 6) (ret := (some .boolean)) (by decide +kernel) rfl ?_
  intro p e s m args below meth c s₁ Bd hml hv
  obtain ⟨hargs, C, hR⟩ := gC.enter (l := l) rfl Bd hml hv
  subst hargs
  have hl := lv_entry ([.ref (B + a0), .ref (B + a1), .ref (B + a2), .int a3]) (n := 6) (Nat.le_of_ble_eq_true rfl)
  rw [lg_entry_eq]
  generalize (lg_sl ([.ref (B + a0), .ref (B + a1), .ref (B + a2), .int a3]) ++ List.replicate (6 - (lg_sl ([.ref (B + a0), .ref (B + a1), .ref (B + a2), .int a3])).length) Slot.unset).toArray = ls at hl ⊢
  have hl : lv_has ls 6 [(0, .ref (B + a0)), (1, .ref (B + a1)), (2, .ref (B + a2)), (3, .int a3)] := hl
  exact c_Pm_canPay_b0 C a0 a1 a2 a3 w (lv_sub hl [0, 1, 2, 3] rfl) hf hR va_S.rf
theorem d_Pm_coinsBehind_0 : decode b_Pm_coinsBehind 0 = .ok (.aload_n 0, 1) := by decide +kernel
theorem d_Pm_coinsBehind_1 : decode b_Pm_coinsBehind 1 = .ok (.getfield 27, 3) := by decide +kernel
theorem d_Pm_coinsBehind_4 : decode b_Pm_coinsBehind 4 = .ok (.aload_n 0, 1) := by decide +kernel
theorem d_Pm_coinsBehind_5 : decode b_Pm_coinsBehind 5 = .ok (.getfield 31, 3) := by decide +kernel
theorem d_Pm_coinsBehind_8 : decode b_Pm_coinsBehind 8 = .ok (.getfield 96, 3) := by decide +kernel
theorem d_Pm_coinsBehind_11 : decode b_Pm_coinsBehind 11 = .ok (.invokevirtual 111, 3) := by decide +kernel
theorem d_Pm_coinsBehind_14 : decode b_Pm_coinsBehind 14 = .ok (.aload_n 0, 1) := by decide +kernel
theorem d_Pm_coinsBehind_15 : decode b_Pm_coinsBehind 15 = .ok (.getfield 42, 3) := by decide +kernel
theorem d_Pm_coinsBehind_18 : decode b_Pm_coinsBehind 18 = .ok (.isub, 1) := by decide +kernel
theorem d_Pm_coinsBehind_19 : decode b_Pm_coinsBehind 19 = .ok (.istore_n 1, 1) := by decide +kernel
theorem d_Pm_coinsBehind_20 : decode b_Pm_coinsBehind 20 = .ok (.iconst 0, 1) := by decide +kernel
theorem d_Pm_coinsBehind_21 : decode b_Pm_coinsBehind 21 = .ok (.istore_n 2, 1) := by decide +kernel
theorem d_Pm_coinsBehind_22 : decode b_Pm_coinsBehind 22 = .ok (.iload_n 2, 1) := by decide +kernel
theorem d_Pm_coinsBehind_23 : decode b_Pm_coinsBehind 23 = .ok (.bipush 6, 2) := by decide +kernel
theorem d_Pm_coinsBehind_25 : decode b_Pm_coinsBehind 25 = .ok (.if_icmp .ge 18, 3) := by decide +kernel
theorem d_Pm_coinsBehind_28 : decode b_Pm_coinsBehind 28 = .ok (.iload_n 1, 1) := by decide +kernel
theorem d_Pm_coinsBehind_29 : decode b_Pm_coinsBehind 29 = .ok (.aload_n 0, 1) := by decide +kernel
theorem d_Pm_coinsBehind_30 : decode b_Pm_coinsBehind 30 = .ok (.getfield 18, 3) := by decide +kernel
theorem d_Pm_coinsBehind_33 : decode b_Pm_coinsBehind 33 = .ok (.iload_n 2, 1) := by decide +kernel
theorem d_Pm_coinsBehind_34 : decode b_Pm_coinsBehind 34 = .ok (.iaload, 1) := by decide +kernel
theorem d_Pm_coinsBehind_35 : decode b_Pm_coinsBehind 35 = .ok (.iadd, 1) := by decide +kernel
theorem d_Pm_coinsBehind_36 : decode b_Pm_coinsBehind 36 = .ok (.istore_n 1, 1) := by decide +kernel
theorem d_Pm_coinsBehind_37 : decode b_Pm_coinsBehind 37 = .ok (.iinc 2 1, 3) := by decide +kernel
theorem d_Pm_coinsBehind_40 : decode b_Pm_coinsBehind 40 = .ok (.goto (-18), 3) := by decide +kernel
theorem d_Pm_coinsBehind_43 : decode b_Pm_coinsBehind 43 = .ok (.iload_n 1, 1) := by decide +kernel
theorem d_Pm_coinsBehind_44 : decode b_Pm_coinsBehind 44 = .ok (.ireturn, 1) := by decide +kernel
set_option maxRecDepth 20000 in
theorem c_Pm_coinsBehind_b22 {r : Int32} {wz : gW} {rec22 : Nat × Int32 × Int32 × gW → Option (Int32 × gW)} (ih22 : ∀ (a0 : Nat) (a1 : Int32) (a2 : Int32) (w : gW) (ls : Array Slot) (H : Heap) (locs : List Loc), rec22 (a0, a1, a2, w) = some (r, wz) → lv_has ls 3 [(0, .ref (B + a0)), (1, .int a1), (2, .int a2)] → gRep D cA B w H → va_S (gA B) s.heap H locs → W p l e ({ frames := 2, cells := 0, slots := 0, locals := 63 } : Room) s m args below meth c H locs 0 0 (MQ below (gQi D cA B r wz) args s 0 0 (gA B)) (F0 m 22 ls [])) (C : gC p s m args meth c "RidCoppers$Payment" b_Pm_coinsBehind 3 (some .int) D cA oc B) (a0 : Nat) (a1 : Int32) (a2 : Int32) (w : gW) {ls : Array Slot} {H : Heap} {locs : List Loc} (hl : lv_has ls 3 [(0, .ref (B + a0)), (1, .int a1), (2, .int a2)]) (hf : f_Pm_coinsBehind_b22 N rec22 a0 a1 a2 w = some (r, wz)) (hR : gRep D cA B w H) (hS : va_S (gA B) s.heap H locs) : W p l e ({ frames := 2, cells := 0, slots := 0, locals := 63 } : Room) s m args below meth c H locs 0 0 (MQ below (gQi D cA B r wz) args s 0 0 (gA B)) (F0 m 22 ls []) := by
  obtain ⟨hx, hb, hml, hown, hts, hr, hlocks, hK, hBs⟩ := id C
  unfold f_Pm_coinsBehind_b22 at hf
  refine lv_iload_n hx hb d_Pm_coinsBehind_22 rfl (lv_at hl 2 rfl) ?_
  refine lv_bipush (v := 6) hx hb d_Pm_coinsBehind_23 (by decide) ?_
  refine lv_icmp_ge (tgt := 43) hx hb d_Pm_coinsBehind_25 (by decide) (fun hc => ?_) (fun hc => ?_)
  · have hf := cd_t hc hf
    refine lv_iload_n hx hb d_Pm_coinsBehind_43 rfl (lv_at hl 1 rfl) ?_
    exact g_iret hx hb hr hlocks hR hS hf rfl d_Pm_coinsBehind_44
  have hf := cd_f hc hf
  refine lv_iload_n hx hb d_Pm_coinsBehind_28 rfl (lv_at hl 1 rfl) ?_
  refine lv_aload_n hx hb d_Pm_coinsBehind_29 rfl (lv_at hl 0 rfl) ?_
  have ⟨h15, hf⟩ := gd_e hf
  have ⟨x16, h17, hf⟩ := rr_e hf
  refine g_getR hx hb hts hown hK hR fl_Pm_18 (fun _ => rfl) h15 h17 d_Pm_coinsBehind_30 ?_
  refine lv_iload_n hx hb d_Pm_coinsBehind_33 rfl (lv_at hl 2 rfl) ?_
  have ⟨h18, hf⟩ := gd_e hf
  have ⟨h19, hf⟩ := gd_e hf
  refine g_iald hx hb hK hR h18 h19 d_Pm_coinsBehind_34 ?_
  refine g_nI hf (fun x20 hf => ?_)
  refine lv_iadd hx hb d_Pm_coinsBehind_35 ?_
  refine g_nI hf (fun x21 hf => ?_)
  refine lv_istore_n (lv' := [(1, .int x21), (0, .ref (B + a0)), (2, .int a2)]) hx hb d_Pm_coinsBehind_36 rfl hl (by decide) rfl (fun ls hl => ?_)
  refine g_iinc (lv' := fun x22 => [(2, .int x22), (1, .int x21), (0, .ref (B + a0))]) hf hx hb d_Pm_coinsBehind_37 hl (k := 2) rfl (by decide) (by decide) (fun _ => rfl) (fun x22 ls hf hl => ?_)
  refine lv_goto (tgt := 22) hx hb d_Pm_coinsBehind_40 (by decide) ?_
  exact ih22 a0 x21 x22 w _ _ _ hf (lv_sub hl [2, 1, 0] rfl) hR hS
theorem c_Pm_coinsBehind_l22 {r : Int32} {wz : gW} (C : gC p s m args meth c "RidCoppers$Payment" b_Pm_coinsBehind 3 (some .int) D cA oc B) (a0 : Nat) (a1 : Int32) (a2 : Int32) (w : gW) {ls : Array Slot} {H : Heap} {locs : List Loc} (hl : lv_has ls 3 [(0, .ref (B + a0)), (1, .int a1), (2, .int a2)]) (hf : f_Pm_coinsBehind_l22 N a0 a1 a2 w = some (r, wz)) (hR : gRep D cA B w H) (hS : va_S (gA B) s.heap H locs) : W p l e ({ frames := 2, cells := 0, slots := 0, locals := 63 } : Room) s m args below meth c H locs 0 0 (MQ below (gQi D cA B r wz) args s 0 0 (gA B)) (F0 m 22 ls []) := by
  unfold f_Pm_coinsBehind_l22 at hf
  suffices hh : ∀ n : Nat, ∀ (a0 : Nat) (a1 : Int32) (a2 : Int32) (w : gW) (ls : Array Slot) (H : Heap) (locs : List Loc), itr (fun rec (q : Nat × Int32 × Int32 × gW) => f_Pm_coinsBehind_b22 N rec q.1 q.2.1 q.2.2.1 q.2.2.2) n (a0, a1, a2, w) = some (r, wz) → lv_has ls 3 [(0, .ref (B + a0)), (1, .int a1), (2, .int a2)] → gRep D cA B w H → va_S (gA B) s.heap H locs → W p l e ({ frames := 2, cells := 0, slots := 0, locals := 63 } : Room) s m args below meth c H locs 0 0 (MQ below (gQi D cA B r wz) args s 0 0 (gA B)) (F0 m 22 ls []) from hh N a0 a1 a2 w ls H locs hf hl hR hS
  intro n
  induction n with
  | zero => intro a0 a1 a2 w ls H locs hf; cases hf
  | succ n ihn =>
    intro a0 a1 a2 w ls H locs hf hl hR hS
    exact c_Pm_coinsBehind_b22 (N := N) ihn C a0 a1 a2 w hl ((itr_s _ _ _).symm.trans hf) hR hS
set_option maxRecDepth 20000 in
theorem c_Pm_coinsBehind_b0 {r : Int32} {wz : gW} (C : gC p s m args meth c "RidCoppers$Payment" b_Pm_coinsBehind 3 (some .int) D cA oc B) (a0 : Nat) (w : gW) {ls : Array Slot} {H : Heap} {locs : List Loc} (hl : lv_has ls 3 [(0, .ref (B + a0))]) (hf : f_Pm_coinsBehind_b0 N a0 w = some (r, wz)) (hR : gRep D cA B w H) (hS : va_S (gA B) s.heap H locs) : W p l e ({ frames := 2, cells := 0, slots := 0, locals := 63 } : Room) s m args below meth c H locs 0 0 (MQ below (gQi D cA B r wz) args s 0 0 (gA B)) (F0 m 0 ls []) := by
  obtain ⟨hx, hb, hml, hown, hts, hr, hlocks, hK, hBs⟩ := id C
  unfold f_Pm_coinsBehind_b0 at hf
  refine lv_aload_n hx hb d_Pm_coinsBehind_0 rfl (lv_at hl 0 rfl) ?_
  have ⟨h1, hf⟩ := gd_e hf
  have ⟨x2, h3, hf⟩ := rr_e hf
  refine g_getR hx hb hts hown hK hR fl_Pm_27 (fun _ => rfl) h1 h3 d_Pm_coinsBehind_1 ?_
  refine lv_aload_n hx hb d_Pm_coinsBehind_4 rfl (lv_at hl 0 rfl) ?_
  have ⟨x4, h5, hf⟩ := rr_e hf
  refine g_getR hx hb hts hown hK hR fl_Pm_31 (fun _ => rfl) h1 h5 d_Pm_coinsBehind_5 ?_
  have ⟨h6, hf⟩ := gd_e hf
  refine g_getI hx hb hts hown hK hR (flP_Pm_96 _ h6) (payv h6) rfl d_Pm_coinsBehind_8 ?_
  refine g_nI hf (fun x7 hf => ?_)
  have ⟨h11, hf⟩ := gd_e hf
  have ⟨x8, w9, h10, hf⟩ := kl_e hf
  refine g_ki0 (g_rV (As := [.int x7]) (rest := []) hx hb hml hown hts hK hR hS (c_Wo_coins l D cA oc B N x2 x7 w h10) I_Wo_coins m_727 m_409 (gRecv hK hR (ci := 9) rfl h11) rfl rfl (Nat.le_of_ble_eq_true rfl) hl.1 ⟨Nat.le_of_ble_eq_true rfl, Nat.le_of_ble_eq_true rfl⟩ ⟨Nat.le_of_ble_eq_true rfl, Nat.le_of_ble_eq_true rfl⟩ d_Pm_coinsBehind_11) hS (fun H locs hR hS => ?_)
  refine lv_aload_n hx hb d_Pm_coinsBehind_14 rfl (lv_at hl 0 rfl) ?_
  have ⟨h12, hf⟩ := gd_e hf
  refine g_getI hx hb hts hown hK hR fl_Pm_42 (fun _ => rfl) h12 d_Pm_coinsBehind_15 ?_
  refine g_nI hf (fun x13 hf => ?_)
  refine lv_isub hx hb d_Pm_coinsBehind_18 ?_
  refine g_nI hf (fun x14 hf => ?_)
  refine lv_istore_n (lv' := [(1, .int x14), (0, .ref (B + a0))]) hx hb d_Pm_coinsBehind_19 rfl hl (by decide) rfl (fun ls hl => ?_)
  refine lv_iconst (v := 0) hx hb d_Pm_coinsBehind_20 (by decide) ?_
  refine lv_istore_n (lv' := [(2, .int 0), (1, .int x14), (0, .ref (B + a0))]) hx hb d_Pm_coinsBehind_21 rfl hl (by decide) rfl (fun ls hl => ?_)
  exact c_Pm_coinsBehind_l22 C a0 x14 0 w9 (lv_sub hl [2, 1, 0] rfl) hf hR hS
theorem c_Pm_coinsBehind (l : Launch) (D : va_G) (cA : Nat → ClassId) (oc : gO) (B N : Nat) (a0 : Nat) (w : gW) {wz : gW} {r : Int32} (hf : f_Pm_coinsBehind N a0 w = some (r, wz)) : Met l y_Pm_coinsBehind (Cond.code y_Pm_coinsBehind b_Pm_coinsBehind 3 (some .int) :: lw_good) ({ frames := 2, cells := 0, slots := 0, locals := 63 } : Room) (gPre D cA oc B [.ref (B + a0)] w) (gQi D cA B r wz) 0 0 (gA B) := by
  refine Met.ofW (cc := b_Pm_coinsBehind) (maxL := 3) (ret := (some .int)) (by decide +kernel) rfl ?_
  intro p e s m args below meth c s₁ Bd hml hv
  obtain ⟨hargs, C, hR⟩ := gC.enter (l := l) rfl Bd hml hv
  subst hargs
  have hl := lv_entry ([.ref (B + a0)]) (n := 3) (Nat.le_of_ble_eq_true rfl)
  rw [lg_entry_eq]
  generalize (lg_sl ([.ref (B + a0)]) ++ List.replicate (3 - (lg_sl ([.ref (B + a0)])).length) Slot.unset).toArray = ls at hl ⊢
  have hl : lv_has ls 3 [(0, .ref (B + a0))] := hl
  exact c_Pm_coinsBehind_b0 C a0 w (lv_sub hl [0] rfl) hf hR va_S.rf
theorem d_Pm_leastBehind_0 : decode b_Pm_leastBehind 0 = .ok (.aload_n 0, 1) := by decide +kernel
theorem d_Pm_leastBehind_1 : decode b_Pm_leastBehind 1 = .ok (.aload_n 1, 1) := by decide +kernel
theorem d_Pm_leastBehind_2 : decode b_Pm_leastBehind 2 = .ok (.aload_n 2, 1) := by decide +kernel
theorem d_Pm_leastBehind_3 : decode b_Pm_leastBehind 3 = .ok (.iconst 0, 1) := by decide +kernel
theorem d_Pm_leastBehind_4 : decode b_Pm_leastBehind 4 = .ok (.invokevirtual 45, 3) := by decide +kernel
theorem d_Pm_leastBehind_7 : decode b_Pm_leastBehind 7 = .ok (.istore 5, 2) := by decide +kernel
theorem d_Pm_leastBehind_9 : decode b_Pm_leastBehind 9 = .ok (.aload_n 0, 1) := by decide +kernel
theorem d_Pm_leastBehind_10 : decode b_Pm_leastBehind 10 = .ok (.iload_n 3, 1) := by decide +kernel
theorem d_Pm_leastBehind_11 : decode b_Pm_leastBehind 11 = .ok (.putfield 35, 3) := by decide +kernel
theorem d_Pm_leastBehind_14 : decode b_Pm_leastBehind 14 = .ok (.ldc 76, 2) := by decide +kernel
theorem d_Pm_leastBehind_16 : decode b_Pm_leastBehind 16 = .ok (.istore 6, 2) := by decide +kernel
theorem d_Pm_leastBehind_18 : decode b_Pm_leastBehind 18 = .ok (.iconst 0, 1) := by decide +kernel
theorem d_Pm_leastBehind_19 : decode b_Pm_leastBehind 19 = .ok (.istore 7, 2) := by decide +kernel
theorem d_Pm_leastBehind_21 : decode b_Pm_leastBehind 21 = .ok (.iload 7, 2) := by decide +kernel
theorem d_Pm_leastBehind_23 : decode b_Pm_leastBehind 23 = .ok (.iload 5, 2) := by decide +kernel
theorem d_Pm_leastBehind_25 : decode b_Pm_leastBehind 25 = .ok (.if_icmp .ge 43, 3) := by decide +kernel
theorem d_Pm_leastBehind_28 : decode b_Pm_leastBehind 28 = .ok (.aload_n 0, 1) := by decide +kernel
theorem d_Pm_leastBehind_29 : decode b_Pm_leastBehind 29 = .ok (.invokevirtual 61, 3) := by decide +kernel
theorem d_Pm_leastBehind_32 : decode b_Pm_leastBehind 32 = .ok (.ifCond .eq 26, 3) := by decide +kernel
theorem d_Pm_leastBehind_35 : decode b_Pm_leastBehind 35 = .ok (.iload 6, 2) := by decide +kernel
theorem d_Pm_leastBehind_37 : decode b_Pm_leastBehind 37 = .ok (.iload 4, 2) := by decide +kernel
theorem d_Pm_leastBehind_39 : decode b_Pm_leastBehind 39 = .ok (.ifCond .eq 10, 3) := by decide +kernel
theorem d_Pm_leastBehind_42 : decode b_Pm_leastBehind 42 = .ok (.aload_n 0, 1) := by decide +kernel
theorem d_Pm_leastBehind_43 : decode b_Pm_leastBehind 43 = .ok (.invokevirtual 77, 3) := by decide +kernel
theorem d_Pm_leastBehind_46 : decode b_Pm_leastBehind 46 = .ok (.goto 7, 3) := by decide +kernel
theorem d_Pm_leastBehind_49 : decode b_Pm_leastBehind 49 = .ok (.aload_n 0, 1) := by decide +kernel
theorem d_Pm_leastBehind_50 : decode b_Pm_leastBehind 50 = .ok (.invokevirtual 81, 3) := by decide +kernel
theorem d_Pm_leastBehind_53 : decode b_Pm_leastBehind 53 = .ok (.invokestatic 84, 3) := by decide +kernel
theorem d_Pm_leastBehind_56 : decode b_Pm_leastBehind 56 = .ok (.istore 6, 2) := by decide +kernel
theorem d_Pm_leastBehind_58 : decode b_Pm_leastBehind 58 = .ok (.aload_n 0, 1) := by decide +kernel
theorem d_Pm_leastBehind_59 : decode b_Pm_leastBehind 59 = .ok (.invokevirtual 70, 3) := by decide +kernel
theorem d_Pm_leastBehind_62 : decode b_Pm_leastBehind 62 = .ok (.iinc 7 1, 3) := by decide +kernel
theorem d_Pm_leastBehind_65 : decode b_Pm_leastBehind 65 = .ok (.goto (-44), 3) := by decide +kernel
theorem d_Pm_leastBehind_68 : decode b_Pm_leastBehind 68 = .ok (.iload 6, 2) := by decide +kernel
theorem d_Pm_leastBehind_70 : decode b_Pm_leastBehind 70 = .ok (.ldc 76, 2) := by decide +kernel
theorem d_Pm_leastBehind_72 : decode b_Pm_leastBehind 72 = .ok (.if_icmp .ne 8, 3) := by decide +kernel
theorem d_Pm_leastBehind_75 : decode b_Pm_leastBehind 75 = .ok (.bipush (-5), 2) := by decide +kernel
theorem d_Pm_leastBehind_77 : decode b_Pm_leastBehind 77 = .ok (.goto 5, 3) := by decide +kernel
theorem d_Pm_leastBehind_80 : decode b_Pm_leastBehind 80 = .ok (.iload 6, 2) := by decide +kernel
theorem d_Pm_leastBehind_82 : decode b_Pm_leastBehind 82 = .ok (.ireturn, 1) := by decide +kernel
set_option maxRecDepth 20000 in
theorem c_Pm_leastBehind_b58 {r : Int32} {wz : gW} {rec21 : Nat × Int32 × Int32 × Int32 × Int32 × gW → Option (Int32 × gW)} (ih21 : ∀ (a0 : Nat) (a4 : Int32) (a5 : Int32) (a6 : Int32) (a7 : Int32) (w : gW) (ls : Array Slot) (H : Heap) (locs : List Loc), rec21 (a0, a4, a5, a6, a7, w) = some (r, wz) → lv_has ls 8 [(0, .ref (B + a0)), (4, .int a4), (5, .int a5), (6, .int a6), (7, .int a7)] → gRep D cA B w H → va_S (gA B) s.heap H locs → W p l e ({ frames := 6, cells := 0, slots := 0, locals := 162 } : Room) s m args below meth c H locs 0 0 (MQ below (gQi D cA B r wz) args s 0 0 (gA B)) (F0 m 21 ls [])) (C : gC p s m args meth c "RidCoppers$Payment" b_Pm_leastBehind 8 (some .int) D cA oc B) (a0 : Nat) (a4 : Int32) (a5 : Int32) (a6 : Int32) (a7 : Int32) (w : gW) {ls : Array Slot} {H : Heap} {locs : List Loc} (hl : lv_has ls 8 [(0, .ref (B + a0)), (4, .int a4), (5, .int a5), (6, .int a6), (7, .int a7)]) (hf : f_Pm_leastBehind_b58 N rec21 a0 a4 a5 a6 a7 w = some (r, wz)) (hR : gRep D cA B w H) (hS : va_S (gA B) s.heap H locs) : W p l e ({ frames := 6, cells := 0, slots := 0, locals := 162 } : Room) s m args below meth c H locs 0 0 (MQ below (gQi D cA B r wz) args s 0 0 (gA B)) (F0 m 58 ls []) := by
  obtain ⟨hx, hb, hml, hown, hts, hr, hlocks, hK, hBs⟩ := id C
  unfold f_Pm_leastBehind_b58 at hf
  refine lv_aload_n hx hb d_Pm_leastBehind_58 rfl (lv_at hl 0 rfl) ?_
  have ⟨h14, hf⟩ := gd_e hf
  have ⟨x11, w12, h13, hf⟩ := kl_e hf
  refine g_kv0 (g_rV (As := []) (rest := []) hx hb hml hown hts hK hR hS (c_Pm_advance l D cA oc B N a0 w h13) I_Pm_advance m_707 mp_23 (gRecv hK hR (ci := 10) rfl h14) rfl rfl (Nat.le_of_ble_eq_true rfl) hl.1 ⟨Nat.le_of_ble_eq_true rfl, Nat.le_of_ble_eq_true rfl⟩ ⟨Nat.le_of_ble_eq_true rfl, Nat.le_of_ble_eq_true rfl⟩ d_Pm_leastBehind_59) hS (fun H locs hR hS => ?_)
  refine g_iinc (lv' := fun x15 => [(7, .int x15), (0, .ref (B + a0)), (4, .int a4), (5, .int a5), (6, .int a6)]) hf hx hb d_Pm_leastBehind_62 hl (k := 4) rfl (by decide) (by decide) (fun _ => rfl) (fun x15 ls hf hl => ?_)
  refine lv_goto (tgt := 21) hx hb d_Pm_leastBehind_65 (by decide) ?_
  exact ih21 a0 a4 a5 a6 x15 w12 _ _ _ hf (lv_sub hl [1, 2, 3, 4, 0] rfl) hR hS
set_option maxRecDepth 20000 in
theorem c_Pm_leastBehind_b53 {r : Int32} {wz : gW} {rec21 : Nat × Int32 × Int32 × Int32 × Int32 × gW → Option (Int32 × gW)} (ih21 : ∀ (a0 : Nat) (a4 : Int32) (a5 : Int32) (a6 : Int32) (a7 : Int32) (w : gW) (ls : Array Slot) (H : Heap) (locs : List Loc), rec21 (a0, a4, a5, a6, a7, w) = some (r, wz) → lv_has ls 8 [(0, .ref (B + a0)), (4, .int a4), (5, .int a5), (6, .int a6), (7, .int a7)] → gRep D cA B w H → va_S (gA B) s.heap H locs → W p l e ({ frames := 6, cells := 0, slots := 0, locals := 162 } : Room) s m args below meth c H locs 0 0 (MQ below (gQi D cA B r wz) args s 0 0 (gA B)) (F0 m 21 ls [])) (C : gC p s m args meth c "RidCoppers$Payment" b_Pm_leastBehind 8 (some .int) D cA oc B) (a0 : Nat) (a4 : Int32) (a5 : Int32) (a7 : Int32) (z0 : Int32) (z1 : Int32) (w : gW) {ls : Array Slot} {H : Heap} {locs : List Loc} (hl : lv_has ls 8 [(0, .ref (B + a0)), (4, .int a4), (5, .int a5), (7, .int a7)]) (hf : f_Pm_leastBehind_b53 N rec21 a0 a4 a5 a7 z0 z1 w = some (r, wz)) (hR : gRep D cA B w H) (hS : va_S (gA B) s.heap H locs) : W p l e ({ frames := 6, cells := 0, slots := 0, locals := 162 } : Room) s m args below meth c H locs 0 0 (MQ below (gQi D cA B r wz) args s 0 0 (gA B)) (F0 m 53 ls [.int z0, .int z1]) := by
  obtain ⟨hx, hb, hml, hown, hts, hr, hlocks, hK, hBs⟩ := id C
  unfold f_Pm_leastBehind_b53 at hf
  refine va_mmin hx hb (hml.trans hl.1.symm) hown (hts _ m_642) (hts _ m_553) (hts _ m_18) (hts _ m_554) (Nat.le_of_ble_eq_true rfl) (Nat.le_of_ble_eq_true rfl) (Nat.zero_le _) (Nat.zero_le _) d_Pm_leastBehind_53 ?_
  refine g_nI hf (fun x20 hf => ?_)
  refine lv_istore (lv' := [(6, .int x20), (0, .ref (B + a0)), (4, .int a4), (5, .int a5), (7, .int a7)]) hx hb d_Pm_leastBehind_56 hl (by decide) rfl (fun ls hl => ?_)
  exact c_Pm_leastBehind_b58 ih21 C a0 a4 a5 x20 a7 w (lv_sub hl [1, 2, 3, 0, 4] rfl) hf hR hS
set_option maxRecDepth 20000 in
theorem c_Pm_leastBehind_b21 {r : Int32} {wz : gW} {rec21 : Nat × Int32 × Int32 × Int32 × Int32 × gW → Option (Int32 × gW)} (ih21 : ∀ (a0 : Nat) (a4 : Int32) (a5 : Int32) (a6 : Int32) (a7 : Int32) (w : gW) (ls : Array Slot) (H : Heap) (locs : List Loc), rec21 (a0, a4, a5, a6, a7, w) = some (r, wz) → lv_has ls 8 [(0, .ref (B + a0)), (4, .int a4), (5, .int a5), (6, .int a6), (7, .int a7)] → gRep D cA B w H → va_S (gA B) s.heap H locs → W p l e ({ frames := 6, cells := 0, slots := 0, locals := 162 } : Room) s m args below meth c H locs 0 0 (MQ below (gQi D cA B r wz) args s 0 0 (gA B)) (F0 m 21 ls [])) (C : gC p s m args meth c "RidCoppers$Payment" b_Pm_leastBehind 8 (some .int) D cA oc B) (a0 : Nat) (a4 : Int32) (a5 : Int32) (a6 : Int32) (a7 : Int32) (w : gW) {ls : Array Slot} {H : Heap} {locs : List Loc} (hl : lv_has ls 8 [(0, .ref (B + a0)), (4, .int a4), (5, .int a5), (6, .int a6), (7, .int a7)]) (hf : f_Pm_leastBehind_b21 N rec21 a0 a4 a5 a6 a7 w = some (r, wz)) (hR : gRep D cA B w H) (hS : va_S (gA B) s.heap H locs) : W p l e ({ frames := 6, cells := 0, slots := 0, locals := 162 } : Room) s m args below meth c H locs 0 0 (MQ below (gQi D cA B r wz) args s 0 0 (gA B)) (F0 m 21 ls []) := by
  obtain ⟨hx, hb, hml, hown, hts, hr, hlocks, hK, hBs⟩ := id C
  unfold f_Pm_leastBehind_b21 at hf
  refine lv_iload hx hb d_Pm_leastBehind_21 (lv_at hl 4 rfl) ?_
  refine lv_iload hx hb d_Pm_leastBehind_23 (lv_at hl 2 rfl) ?_
  refine lv_icmp_ge (tgt := 68) hx hb d_Pm_leastBehind_25 (by decide) (fun hc => ?_) (fun hc => ?_)
  · have hf := cd_t hc hf
    refine lv_iload hx hb d_Pm_leastBehind_68 (lv_at hl 3 rfl) ?_
    refine lv_ldc hx hb hown (hts _ m_737) d_Pm_leastBehind_70 ?_
    refine lv_icmp_ne (tgt := 80) hx hb d_Pm_leastBehind_72 (by decide) (fun hc => ?_) (fun hc => ?_)
    · have hf := cd_f hc hf
      refine lv_iload hx hb d_Pm_leastBehind_80 (lv_at hl 3 rfl) ?_
      exact g_iret hx hb hr hlocks hR hS hf rfl d_Pm_leastBehind_82
    have hf := cd_t hc hf
    refine lv_bipush (v := (-5)) hx hb d_Pm_leastBehind_75 (by decide) ?_
    refine lv_goto (tgt := 82) hx hb d_Pm_leastBehind_77 (by decide) ?_
    exact g_iret hx hb hr hlocks hR hS hf rfl d_Pm_leastBehind_82
  have hf := cd_f hc hf
  refine lv_aload_n hx hb d_Pm_leastBehind_28 rfl (lv_at hl 0 rfl) ?_
  have ⟨h10, hf⟩ := gd_e hf
  have ⟨x7, w8, h9, hf⟩ := kl_e hf
  refine g_ki0 (g_rV (As := []) (rest := []) hx hb hml hown hts hK hR hS (c_Pm_pays l D cA oc B N a0 w h9) I_Pm_pays m_695 mp_21 (gRecv hK hR (ci := 10) rfl h10) rfl rfl (Nat.le_of_ble_eq_true rfl) hl.1 ⟨Nat.le_of_ble_eq_true rfl, Nat.le_of_ble_eq_true rfl⟩ ⟨Nat.le_of_ble_eq_true rfl, Nat.le_of_ble_eq_true rfl⟩ d_Pm_leastBehind_29) hS (fun H locs hR hS => ?_)
  refine lv_if_eq (tgt := 58) hx hb d_Pm_leastBehind_32 (by decide) (fun hc => ?_) (fun hc => ?_)
  · have hf := cd_t hc hf
    exact c_Pm_leastBehind_b58 ih21 C a0 a4 a5 a6 a7 w8 (lv_sub hl [0, 1, 2, 3, 4] rfl) hf hR hS
  have hf := cd_f hc hf
  refine lv_iload hx hb d_Pm_leastBehind_35 (lv_at hl 3 rfl) ?_
  refine lv_iload hx hb d_Pm_leastBehind_37 (lv_at hl 1 rfl) ?_
  refine lv_if_eq (tgt := 49) hx hb d_Pm_leastBehind_39 (by decide) (fun hc => ?_) (fun hc => ?_)
  · have hf := cd_t hc hf
    refine lv_aload_n hx hb d_Pm_leastBehind_49 rfl (lv_at hl 0 rfl) ?_
    have ⟨h19, hf⟩ := gd_e hf
    have ⟨x16, w17, h18, hf⟩ := kl_e hf
    refine g_ki0 (g_rV (As := []) (rest := [.int a6]) hx hb hml hown hts hK hR hS (c_Pm_coinsBehind l D cA oc B N a0 w8 h18) I_Pm_coinsBehind m_739 m_725 (gRecv hK hR (ci := 10) rfl h19) rfl rfl (Nat.le_of_ble_eq_true rfl) hl.1 ⟨Nat.le_of_ble_eq_true rfl, Nat.le_of_ble_eq_true rfl⟩ ⟨Nat.le_of_ble_eq_true rfl, Nat.le_of_ble_eq_true rfl⟩ d_Pm_leastBehind_50) hS (fun H locs hR hS => ?_)
    exact c_Pm_leastBehind_b53 ih21 C a0 a4 a5 a7 x16 a6 w17 (lv_sub hl [0, 1, 2, 4] rfl) hf hR hS
  have hf := cd_f hc hf
  refine lv_aload_n hx hb d_Pm_leastBehind_42 rfl (lv_at hl 0 rfl) ?_
  have ⟨h24, hf⟩ := gd_e hf
  have ⟨x21, w22, h23, hf⟩ := kl_e hf
  refine g_ki0 (g_rV (As := []) (rest := [.int a6]) hx hb hml hown hts hK hR hS (c_Pm_weightBehind l D cA oc B N a0 w8 h23) I_Pm_weightBehind m_738 m_676 (gRecv hK hR (ci := 10) rfl h24) rfl rfl (Nat.le_of_ble_eq_true rfl) hl.1 ⟨Nat.le_of_ble_eq_true rfl, Nat.le_of_ble_eq_true rfl⟩ ⟨Nat.le_of_ble_eq_true rfl, Nat.le_of_ble_eq_true rfl⟩ d_Pm_leastBehind_43) hS (fun H locs hR hS => ?_)
  refine lv_goto (tgt := 53) hx hb d_Pm_leastBehind_46 (by decide) ?_
  exact c_Pm_leastBehind_b53 ih21 C a0 a4 a5 a7 x21 a6 w22 (lv_sub hl [0, 1, 2, 4] rfl) hf hR hS
theorem c_Pm_leastBehind_l21 {r : Int32} {wz : gW} (C : gC p s m args meth c "RidCoppers$Payment" b_Pm_leastBehind 8 (some .int) D cA oc B) (a0 : Nat) (a4 : Int32) (a5 : Int32) (a6 : Int32) (a7 : Int32) (w : gW) {ls : Array Slot} {H : Heap} {locs : List Loc} (hl : lv_has ls 8 [(0, .ref (B + a0)), (4, .int a4), (5, .int a5), (6, .int a6), (7, .int a7)]) (hf : f_Pm_leastBehind_l21 N a0 a4 a5 a6 a7 w = some (r, wz)) (hR : gRep D cA B w H) (hS : va_S (gA B) s.heap H locs) : W p l e ({ frames := 6, cells := 0, slots := 0, locals := 162 } : Room) s m args below meth c H locs 0 0 (MQ below (gQi D cA B r wz) args s 0 0 (gA B)) (F0 m 21 ls []) := by
  unfold f_Pm_leastBehind_l21 at hf
  suffices hh : ∀ n : Nat, ∀ (a0 : Nat) (a4 : Int32) (a5 : Int32) (a6 : Int32) (a7 : Int32) (w : gW) (ls : Array Slot) (H : Heap) (locs : List Loc), itr (fun rec (q : Nat × Int32 × Int32 × Int32 × Int32 × gW) => f_Pm_leastBehind_b21 N rec q.1 q.2.1 q.2.2.1 q.2.2.2.1 q.2.2.2.2.1 q.2.2.2.2.2) n (a0, a4, a5, a6, a7, w) = some (r, wz) → lv_has ls 8 [(0, .ref (B + a0)), (4, .int a4), (5, .int a5), (6, .int a6), (7, .int a7)] → gRep D cA B w H → va_S (gA B) s.heap H locs → W p l e ({ frames := 6, cells := 0, slots := 0, locals := 162 } : Room) s m args below meth c H locs 0 0 (MQ below (gQi D cA B r wz) args s 0 0 (gA B)) (F0 m 21 ls []) from hh N a0 a4 a5 a6 a7 w ls H locs hf hl hR hS
  intro n
  induction n with
  | zero => intro a0 a4 a5 a6 a7 w ls H locs hf; cases hf
  | succ n ihn =>
    intro a0 a4 a5 a6 a7 w ls H locs hf hl hR hS
    exact c_Pm_leastBehind_b21 (N := N) ihn C a0 a4 a5 a6 a7 w hl ((itr_s _ _ _).symm.trans hf) hR hS
set_option maxRecDepth 20000 in
theorem c_Pm_leastBehind_b0 {r : Int32} {wz : gW} (C : gC p s m args meth c "RidCoppers$Payment" b_Pm_leastBehind 8 (some .int) D cA oc B) (a0 : Nat) (a1 : Nat) (a2 : Nat) (a3 : Int32) (a4 : Int32) (w : gW) {ls : Array Slot} {H : Heap} {locs : List Loc} (hl : lv_has ls 8 [(0, .ref (B + a0)), (1, .ref (B + a1)), (2, .ref (B + a2)), (3, .int a3), (4, .int a4)]) (hf : f_Pm_leastBehind_b0 N a0 a1 a2 a3 a4 w = some (r, wz)) (hR : gRep D cA B w H) (hS : va_S (gA B) s.heap H locs) : W p l e ({ frames := 6, cells := 0, slots := 0, locals := 162 } : Room) s m args below meth c H locs 0 0 (MQ below (gQi D cA B r wz) args s 0 0 (gA B)) (F0 m 0 ls []) := by
  obtain ⟨hx, hb, hml, hown, hts, hr, hlocks, hK, hBs⟩ := id C
  unfold f_Pm_leastBehind_b0 at hf
  refine lv_aload_n hx hb d_Pm_leastBehind_0 rfl (lv_at hl 0 rfl) ?_
  refine lv_aload_n hx hb d_Pm_leastBehind_1 rfl (lv_at hl 1 rfl) ?_
  refine lv_aload_n hx hb d_Pm_leastBehind_2 rfl (lv_at hl 2 rfl) ?_
  refine lv_iconst (v := 0) hx hb d_Pm_leastBehind_3 (by decide) ?_
  have ⟨h4, hf⟩ := gd_e hf
  have ⟨x1, w2, h3, hf⟩ := kl_e hf
  refine g_ki0 (g_rV (As := [.ref (B + a1), .ref (B + a2), .int 0]) (rest := []) hx hb hml hown hts hK hR hS (c_Pm_begin l D cA oc B N a0 a1 a2 0 w h3) I_Pm_begin m_622 mp_19 (gRecv hK hR (ci := 10) rfl h4) rfl rfl (Nat.le_of_ble_eq_true rfl) hl.1 ⟨Nat.le_of_ble_eq_true rfl, Nat.le_of_ble_eq_true rfl⟩ ⟨Nat.le_of_ble_eq_true rfl, Nat.le_of_ble_eq_true rfl⟩ d_Pm_leastBehind_4) hS (fun H locs hR hS => ?_)
  refine lv_istore (lv' := [(5, .int x1), (0, .ref (B + a0)), (1, .ref (B + a1)), (2, .ref (B + a2)), (3, .int a3), (4, .int a4)]) hx hb d_Pm_leastBehind_7 hl (by decide) rfl (fun ls hl => ?_)
  refine lv_aload_n hx hb d_Pm_leastBehind_9 rfl (lv_at hl 1 rfl) ?_
  refine lv_iload_n hx hb d_Pm_leastBehind_10 rfl (lv_at hl 4 rfl) ?_
  have ⟨h5, hf⟩ := gd_e hf
  refine g_putI hx hb hts hown hK hR hS pf_Pm_35 (fun _ => rfl) rfl rfl h5 d_Pm_leastBehind_11 (fun H locs hR hS => ?_)
  refine g_nW hf hR (fun w6 hf hR => ?_)
  refine lv_ldc hx hb hown (hts _ m_737) d_Pm_leastBehind_14 ?_
  refine lv_istore (lv' := [(6, .int 1000000000), (5, .int x1), (0, .ref (B + a0)), (1, .ref (B + a1)), (2, .ref (B + a2)), (3, .int a3), (4, .int a4)]) hx hb d_Pm_leastBehind_16 hl (by decide) rfl (fun ls hl => ?_)
  refine lv_iconst (v := 0) hx hb d_Pm_leastBehind_18 (by decide) ?_
  refine lv_istore (lv' := [(7, .int 0), (6, .int 1000000000), (5, .int x1), (0, .ref (B + a0)), (1, .ref (B + a1)), (2, .ref (B + a2)), (3, .int a3), (4, .int a4)]) hx hb d_Pm_leastBehind_19 hl (by decide) rfl (fun ls hl => ?_)
  exact c_Pm_leastBehind_l21 C a0 a4 x1 1000000000 0 w6 (lv_sub hl [3, 7, 2, 1, 0] rfl) hf hR hS
theorem c_Pm_leastBehind (l : Launch) (D : va_G) (cA : Nat → ClassId) (oc : gO) (B N : Nat) (a0 : Nat) (a1 : Nat) (a2 : Nat) (a3 : Int32) (a4 : Int32) (w : gW) {wz : gW} {r : Int32} (hf : f_Pm_leastBehind N a0 a1 a2 a3 a4 w = some (r, wz)) : Met l y_Pm_leastBehind (Cond.code y_Pm_leastBehind b_Pm_leastBehind 8 (some .int) :: lw_good) ({ frames := 6, cells := 0, slots := 0, locals := 162 } : Room) (gPre D cA oc B [.ref (B + a0), .ref (B + a1), .ref (B + a2), .int a3, .int a4] w) (gQi D cA B r wz) 0 0 (gA B) := by
  refine Met.ofW (cc := b_Pm_leastBehind) (maxL := 8) (ret := (some .int)) (by decide +kernel) rfl ?_
  intro p e s m args below meth c s₁ Bd hml hv
  obtain ⟨hargs, C, hR⟩ := gC.enter (l := l) rfl Bd hml hv
  subst hargs
  have hl := lv_entry ([.ref (B + a0), .ref (B + a1), .ref (B + a2), .int a3, .int a4]) (n := 8) (Nat.le_of_ble_eq_true rfl)
  rw [lg_entry_eq]
  generalize (lg_sl ([.ref (B + a0), .ref (B + a1), .ref (B + a2), .int a3, .int a4]) ++ List.replicate (8 - (lg_sl ([.ref (B + a0), .ref (B + a1), .ref (B + a2), .int a3, .int a4])).length) Slot.unset).toArray = ls at hl ⊢
  have hl : lv_has ls 8 [(0, .ref (B + a0)), (1, .ref (B + a1)), (2, .ref (B + a2)), (3, .int a3), (4, .int a4)] := hl
  exact c_Pm_leastBehind_b0 C a0 a1 a2 a3 a4 w (lv_sub hl [0, 1, 2, 3, 4] rfl) hf hR va_S.rf
theorem d_Pm_exactPrices_0 : decode b_Pm_exactPrices 0 = .ok (.aload_n 0, 1) := by decide +kernel
theorem d_Pm_exactPrices_1 : decode b_Pm_exactPrices 1 = .ok (.aload_n 1, 1) := by decide +kernel
theorem d_Pm_exactPrices_2 : decode b_Pm_exactPrices 2 = .ok (.aload_n 2, 1) := by decide +kernel
theorem d_Pm_exactPrices_3 : decode b_Pm_exactPrices 3 = .ok (.iconst 0, 1) := by decide +kernel
theorem d_Pm_exactPrices_4 : decode b_Pm_exactPrices 4 = .ok (.invokevirtual 45, 3) := by decide +kernel
theorem d_Pm_exactPrices_7 : decode b_Pm_exactPrices 7 = .ok (.istore_n 3, 1) := by decide +kernel
theorem d_Pm_exactPrices_8 : decode b_Pm_exactPrices 8 = .ok (.lconst 0, 1) := by decide +kernel
theorem d_Pm_exactPrices_9 : decode b_Pm_exactPrices 9 = .ok (.lstore 4, 2) := by decide +kernel
theorem d_Pm_exactPrices_11 : decode b_Pm_exactPrices 11 = .ok (.iconst 0, 1) := by decide +kernel
theorem d_Pm_exactPrices_12 : decode b_Pm_exactPrices 12 = .ok (.istore 6, 2) := by decide +kernel
theorem d_Pm_exactPrices_14 : decode b_Pm_exactPrices 14 = .ok (.iload 6, 2) := by decide +kernel
theorem d_Pm_exactPrices_16 : decode b_Pm_exactPrices 16 = .ok (.iload_n 3, 1) := by decide +kernel
theorem d_Pm_exactPrices_17 : decode b_Pm_exactPrices 17 = .ok (.if_icmp .ge 56, 3) := by decide +kernel
theorem d_Pm_exactPrices_20 : decode b_Pm_exactPrices 20 = .ok (.aload_n 0, 1) := by decide +kernel
theorem d_Pm_exactPrices_21 : decode b_Pm_exactPrices 21 = .ok (.aload_n 0, 1) := by decide +kernel
theorem d_Pm_exactPrices_22 : decode b_Pm_exactPrices 22 = .ok (.getfield 39, 3) := by decide +kernel
theorem d_Pm_exactPrices_25 : decode b_Pm_exactPrices 25 = .ok (.putfield 35, 3) := by decide +kernel
theorem d_Pm_exactPrices_28 : decode b_Pm_exactPrices 28 = .ok (.aload_n 0, 1) := by decide +kernel
theorem d_Pm_exactPrices_29 : decode b_Pm_exactPrices 29 = .ok (.getfield 39, 3) := by decide +kernel
theorem d_Pm_exactPrices_32 : decode b_Pm_exactPrices 32 = .ok (.iconst 1, 1) := by decide +kernel
theorem d_Pm_exactPrices_33 : decode b_Pm_exactPrices 33 = .ok (.if_icmp .lt 30, 3) := by decide +kernel
theorem d_Pm_exactPrices_36 : decode b_Pm_exactPrices 36 = .ok (.aload_n 0, 1) := by decide +kernel
theorem d_Pm_exactPrices_37 : decode b_Pm_exactPrices 37 = .ok (.getfield 39, 3) := by decide +kernel
theorem d_Pm_exactPrices_40 : decode b_Pm_exactPrices 40 = .ok (.bipush 60, 2) := by decide +kernel
theorem d_Pm_exactPrices_42 : decode b_Pm_exactPrices 42 = .ok (.if_icmp .gt 21, 3) := by decide +kernel
theorem d_Pm_exactPrices_45 : decode b_Pm_exactPrices 45 = .ok (.aload_n 0, 1) := by decide +kernel
theorem d_Pm_exactPrices_46 : decode b_Pm_exactPrices 46 = .ok (.invokevirtual 61, 3) := by decide +kernel
theorem d_Pm_exactPrices_49 : decode b_Pm_exactPrices 49 = .ok (.ifCond .eq 14, 3) := by decide +kernel
theorem d_Pm_exactPrices_52 : decode b_Pm_exactPrices 52 = .ok (.lload 4, 2) := by decide +kernel
theorem d_Pm_exactPrices_54 : decode b_Pm_exactPrices 54 = .ok (.lconst 1, 1) := by decide +kernel
theorem d_Pm_exactPrices_55 : decode b_Pm_exactPrices 55 = .ok (.aload_n 0, 1) := by decide +kernel
theorem d_Pm_exactPrices_56 : decode b_Pm_exactPrices 56 = .ok (.getfield 39, 3) := by decide +kernel
theorem d_Pm_exactPrices_59 : decode b_Pm_exactPrices 59 = .ok (.lshl, 1) := by decide +kernel
theorem d_Pm_exactPrices_60 : decode b_Pm_exactPrices 60 = .ok (.lor, 1) := by decide +kernel
theorem d_Pm_exactPrices_61 : decode b_Pm_exactPrices 61 = .ok (.lstore 4, 2) := by decide +kernel
theorem d_Pm_exactPrices_63 : decode b_Pm_exactPrices 63 = .ok (.aload_n 0, 1) := by decide +kernel
theorem d_Pm_exactPrices_64 : decode b_Pm_exactPrices 64 = .ok (.invokevirtual 70, 3) := by decide +kernel
theorem d_Pm_exactPrices_67 : decode b_Pm_exactPrices 67 = .ok (.iinc 6 1, 3) := by decide +kernel
theorem d_Pm_exactPrices_70 : decode b_Pm_exactPrices 70 = .ok (.goto (-56), 3) := by decide +kernel
theorem d_Pm_exactPrices_73 : decode b_Pm_exactPrices 73 = .ok (.lload 4, 2) := by decide +kernel
theorem d_Pm_exactPrices_75 : decode b_Pm_exactPrices 75 = .ok (.invokestatic 90, 3) := by decide +kernel
theorem d_Pm_exactPrices_78 : decode b_Pm_exactPrices 78 = .ok (.ireturn, 1) := by decide +kernel
set_option maxRecDepth 20000 in
theorem c_Pm_exactPrices_b63 {r : Int32} {wz : gW} {rec14 : Nat × Int32 × Int64 × Int32 × gW → Option (Int32 × gW)} (ih14 : ∀ (a0 : Nat) (a3 : Int32) (a4 : Int64) (a6 : Int32) (w : gW) (ls : Array Slot) (H : Heap) (locs : List Loc), rec14 (a0, a3, a4, a6, w) = some (r, wz) → lv_has ls 7 [(0, .ref (B + a0)), (3, .int a3), (4, .long a4), (6, .int a6)] → gRep D cA B w H → va_S (gA B) s.heap H locs → W p l e ({ frames := 6, cells := 0, slots := 0, locals := 162 } : Room) s m args below meth c H locs 0 0 (MQ below (gQi D cA B r wz) args s 0 0 (gA B)) (F0 m 14 ls [])) (C : gC p s m args meth c "RidCoppers$Payment" b_Pm_exactPrices 7 (some .int) D cA oc B) (a0 : Nat) (a3 : Int32) (a4 : Int64) (a6 : Int32) (w : gW) {ls : Array Slot} {H : Heap} {locs : List Loc} (hl : lv_has ls 7 [(0, .ref (B + a0)), (3, .int a3), (4, .long a4), (6, .int a6)]) (hf : f_Pm_exactPrices_b63 N rec14 a0 a3 a4 a6 w = some (r, wz)) (hR : gRep D cA B w H) (hS : va_S (gA B) s.heap H locs) : W p l e ({ frames := 6, cells := 0, slots := 0, locals := 162 } : Room) s m args below meth c H locs 0 0 (MQ below (gQi D cA B r wz) args s 0 0 (gA B)) (F0 m 63 ls []) := by
  obtain ⟨hx, hb, hml, hown, hts, hr, hlocks, hK, hBs⟩ := id C
  unfold f_Pm_exactPrices_b63 at hf
  refine lv_aload_n hx hb d_Pm_exactPrices_63 rfl (lv_at hl 0 rfl) ?_
  have ⟨h16, hf⟩ := gd_e hf
  have ⟨x13, w14, h15, hf⟩ := kl_e hf
  refine g_kv0 (g_rV (As := []) (rest := []) hx hb hml hown hts hK hR hS (c_Pm_advance l D cA oc B N a0 w h15) I_Pm_advance m_707 mp_23 (gRecv hK hR (ci := 10) rfl h16) rfl rfl (Nat.le_of_ble_eq_true rfl) hl.1 ⟨Nat.le_of_ble_eq_true rfl, Nat.le_of_ble_eq_true rfl⟩ ⟨Nat.le_of_ble_eq_true rfl, Nat.le_of_ble_eq_true rfl⟩ d_Pm_exactPrices_64) hS (fun H locs hR hS => ?_)
  refine g_iinc (lv' := fun x17 => [(6, .int x17), (0, .ref (B + a0)), (3, .int a3), (4, .long a4)]) hf hx hb d_Pm_exactPrices_67 hl (k := 3) rfl (by decide) (by decide) (fun _ => rfl) (fun x17 ls hf hl => ?_)
  refine lv_goto (tgt := 14) hx hb d_Pm_exactPrices_70 (by decide) ?_
  exact ih14 a0 a3 a4 x17 w14 _ _ _ hf (lv_sub hl [1, 2, 3, 0] rfl) hR hS
set_option maxRecDepth 20000 in
theorem c_Pm_exactPrices_b14 {r : Int32} {wz : gW} {rec14 : Nat × Int32 × Int64 × Int32 × gW → Option (Int32 × gW)} (ih14 : ∀ (a0 : Nat) (a3 : Int32) (a4 : Int64) (a6 : Int32) (w : gW) (ls : Array Slot) (H : Heap) (locs : List Loc), rec14 (a0, a3, a4, a6, w) = some (r, wz) → lv_has ls 7 [(0, .ref (B + a0)), (3, .int a3), (4, .long a4), (6, .int a6)] → gRep D cA B w H → va_S (gA B) s.heap H locs → W p l e ({ frames := 6, cells := 0, slots := 0, locals := 162 } : Room) s m args below meth c H locs 0 0 (MQ below (gQi D cA B r wz) args s 0 0 (gA B)) (F0 m 14 ls [])) (C : gC p s m args meth c "RidCoppers$Payment" b_Pm_exactPrices 7 (some .int) D cA oc B) (a0 : Nat) (a3 : Int32) (a4 : Int64) (a6 : Int32) (w : gW) {ls : Array Slot} {H : Heap} {locs : List Loc} (hl : lv_has ls 7 [(0, .ref (B + a0)), (3, .int a3), (4, .long a4), (6, .int a6)]) (hf : f_Pm_exactPrices_b14 N rec14 a0 a3 a4 a6 w = some (r, wz)) (hR : gRep D cA B w H) (hS : va_S (gA B) s.heap H locs) : W p l e ({ frames := 6, cells := 0, slots := 0, locals := 162 } : Room) s m args below meth c H locs 0 0 (MQ below (gQi D cA B r wz) args s 0 0 (gA B)) (F0 m 14 ls []) := by
  obtain ⟨hx, hb, hml, hown, hts, hr, hlocks, hK, hBs⟩ := id C
  unfold f_Pm_exactPrices_b14 at hf
  refine lv_iload hx hb d_Pm_exactPrices_14 (lv_at hl 3 rfl) ?_
  refine lv_iload_n hx hb d_Pm_exactPrices_16 rfl (lv_at hl 1 rfl) ?_
  refine lv_icmp_ge (tgt := 73) hx hb d_Pm_exactPrices_17 (by decide) (fun hc => ?_) (fun hc => ?_)
  · have hf := cd_t hc hf
    refine lv_lload hx hb d_Pm_exactPrices_73 (lv_at hl 2 rfl) ?_
    have ⟨x5, w6, h7, hf⟩ := kl_e hf
    refine g_ki0 (g_rS (As := [.long a4]) (rest := []) hx hb hml hown hts hK hR hS (c_Lo_bitCount l D cA oc B N a4 w h7) I_Lo_bitCount m_748 rfl rfl (Nat.le_of_ble_eq_true rfl) hl.1 ⟨Nat.le_of_ble_eq_true rfl, Nat.le_of_ble_eq_true rfl⟩ ⟨Nat.le_of_ble_eq_true rfl, Nat.le_of_ble_eq_true rfl⟩ d_Pm_exactPrices_75) hS (fun H locs hR hS => ?_)
    exact g_iret hx hb hr hlocks hR hS hf rfl d_Pm_exactPrices_78
  have hf := cd_f hc hf
  refine lv_aload_n hx hb d_Pm_exactPrices_20 rfl (lv_at hl 0 rfl) ?_
  refine lv_aload_n hx hb d_Pm_exactPrices_21 rfl (lv_at hl 0 rfl) ?_
  have ⟨h8, hf⟩ := gd_e hf
  refine g_getI hx hb hts hown hK hR fl_Pm_39 (fun _ => rfl) h8 d_Pm_exactPrices_22 ?_
  refine g_nI hf (fun x9 hf => ?_)
  refine g_putI hx hb hts hown hK hR hS pf_Pm_35 (fun _ => rfl) rfl rfl h8 d_Pm_exactPrices_25 (fun H locs hR hS => ?_)
  refine g_nW hf hR (fun w10 hf hR => ?_)
  refine lv_aload_n hx hb d_Pm_exactPrices_28 rfl (lv_at hl 0 rfl) ?_
  have ⟨h11, hf⟩ := gd_e hf
  refine g_getI hx hb hts hown hK hR fl_Pm_39 (fun _ => rfl) h11 d_Pm_exactPrices_29 ?_
  refine g_nI hf (fun x12 hf => ?_)
  refine lv_iconst (v := 1) hx hb d_Pm_exactPrices_32 (by decide) ?_
  refine lv_icmp_lt (tgt := 63) hx hb d_Pm_exactPrices_33 (by decide) (fun hc => ?_) (fun hc => ?_)
  · have hf := cd_t hc hf
    exact c_Pm_exactPrices_b63 ih14 C a0 a3 a4 a6 w10 (lv_sub hl [0, 1, 2, 3] rfl) hf hR hS
  have hf := cd_f hc hf
  refine lv_aload_n hx hb d_Pm_exactPrices_36 rfl (lv_at hl 0 rfl) ?_
  refine g_getI hx hb hts hown hK hR fl_Pm_39 (fun _ => rfl) h11 d_Pm_exactPrices_37 ?_
  refine g_nI hf (fun x18 hf => ?_)
  refine lv_bipush (v := 60) hx hb d_Pm_exactPrices_40 (by decide) ?_
  refine lv_icmp_gt (tgt := 63) hx hb d_Pm_exactPrices_42 (by decide) (fun hc => ?_) (fun hc => ?_)
  · have hf := cd_t hc hf
    exact c_Pm_exactPrices_b63 ih14 C a0 a3 a4 a6 w10 (lv_sub hl [0, 1, 2, 3] rfl) hf hR hS
  have hf := cd_f hc hf
  refine lv_aload_n hx hb d_Pm_exactPrices_45 rfl (lv_at hl 0 rfl) ?_
  have ⟨x19, w20, h21, hf⟩ := kl_e hf
  refine g_ki0 (g_rV (As := []) (rest := []) hx hb hml hown hts hK hR hS (c_Pm_pays l D cA oc B N a0 w10 h21) I_Pm_pays m_695 mp_21 (gRecv hK hR (ci := 10) rfl h11) rfl rfl (Nat.le_of_ble_eq_true rfl) hl.1 ⟨Nat.le_of_ble_eq_true rfl, Nat.le_of_ble_eq_true rfl⟩ ⟨Nat.le_of_ble_eq_true rfl, Nat.le_of_ble_eq_true rfl⟩ d_Pm_exactPrices_46) hS (fun H locs hR hS => ?_)
  refine lv_if_eq (tgt := 63) hx hb d_Pm_exactPrices_49 (by decide) (fun hc => ?_) (fun hc => ?_)
  · have hf := cd_t hc hf
    exact c_Pm_exactPrices_b63 ih14 C a0 a3 a4 a6 w20 (lv_sub hl [0, 1, 2, 3] rfl) hf hR hS
  have hf := cd_f hc hf
  refine lv_lload hx hb d_Pm_exactPrices_52 (lv_at hl 2 rfl) ?_
  refine lv_lconst (v := 1) hx hb d_Pm_exactPrices_54 (by decide) ?_
  refine lv_aload_n hx hb d_Pm_exactPrices_55 rfl (lv_at hl 0 rfl) ?_
  have ⟨h22, hf⟩ := gd_e hf
  refine g_getI hx hb hts hown hK hR fl_Pm_39 (fun _ => rfl) h22 d_Pm_exactPrices_56 ?_
  refine g_nI hf (fun x23 hf => ?_)
  refine lv_lshl hx hb d_Pm_exactPrices_59 rfl ?_
  refine g_nL hf (fun x24 hf => ?_)
  refine lv_lor hx hb d_Pm_exactPrices_60 ?_
  refine g_nL hf (fun x25 hf => ?_)
  refine lv_lstore (lv' := [(4, .long x25), (0, .ref (B + a0)), (3, .int a3), (6, .int a6)]) hx hb d_Pm_exactPrices_61 hl (by decide) rfl (fun ls hl => ?_)
  exact c_Pm_exactPrices_b63 ih14 C a0 a3 x25 a6 w20 (lv_sub hl [1, 2, 0, 3] rfl) hf hR hS
theorem c_Pm_exactPrices_l14 {r : Int32} {wz : gW} (C : gC p s m args meth c "RidCoppers$Payment" b_Pm_exactPrices 7 (some .int) D cA oc B) (a0 : Nat) (a3 : Int32) (a4 : Int64) (a6 : Int32) (w : gW) {ls : Array Slot} {H : Heap} {locs : List Loc} (hl : lv_has ls 7 [(0, .ref (B + a0)), (3, .int a3), (4, .long a4), (6, .int a6)]) (hf : f_Pm_exactPrices_l14 N a0 a3 a4 a6 w = some (r, wz)) (hR : gRep D cA B w H) (hS : va_S (gA B) s.heap H locs) : W p l e ({ frames := 6, cells := 0, slots := 0, locals := 162 } : Room) s m args below meth c H locs 0 0 (MQ below (gQi D cA B r wz) args s 0 0 (gA B)) (F0 m 14 ls []) := by
  unfold f_Pm_exactPrices_l14 at hf
  suffices hh : ∀ n : Nat, ∀ (a0 : Nat) (a3 : Int32) (a4 : Int64) (a6 : Int32) (w : gW) (ls : Array Slot) (H : Heap) (locs : List Loc), itr (fun rec (q : Nat × Int32 × Int64 × Int32 × gW) => f_Pm_exactPrices_b14 N rec q.1 q.2.1 q.2.2.1 q.2.2.2.1 q.2.2.2.2) n (a0, a3, a4, a6, w) = some (r, wz) → lv_has ls 7 [(0, .ref (B + a0)), (3, .int a3), (4, .long a4), (6, .int a6)] → gRep D cA B w H → va_S (gA B) s.heap H locs → W p l e ({ frames := 6, cells := 0, slots := 0, locals := 162 } : Room) s m args below meth c H locs 0 0 (MQ below (gQi D cA B r wz) args s 0 0 (gA B)) (F0 m 14 ls []) from hh N a0 a3 a4 a6 w ls H locs hf hl hR hS
  intro n
  induction n with
  | zero => intro a0 a3 a4 a6 w ls H locs hf; cases hf
  | succ n ihn =>
    intro a0 a3 a4 a6 w ls H locs hf hl hR hS
    exact c_Pm_exactPrices_b14 (N := N) ihn C a0 a3 a4 a6 w hl ((itr_s _ _ _).symm.trans hf) hR hS
set_option maxRecDepth 20000 in
theorem c_Pm_exactPrices_b0 {r : Int32} {wz : gW} (C : gC p s m args meth c "RidCoppers$Payment" b_Pm_exactPrices 7 (some .int) D cA oc B) (a0 : Nat) (a1 : Nat) (a2 : Nat) (w : gW) {ls : Array Slot} {H : Heap} {locs : List Loc} (hl : lv_has ls 7 [(0, .ref (B + a0)), (1, .ref (B + a1)), (2, .ref (B + a2))]) (hf : f_Pm_exactPrices_b0 N a0 a1 a2 w = some (r, wz)) (hR : gRep D cA B w H) (hS : va_S (gA B) s.heap H locs) : W p l e ({ frames := 6, cells := 0, slots := 0, locals := 162 } : Room) s m args below meth c H locs 0 0 (MQ below (gQi D cA B r wz) args s 0 0 (gA B)) (F0 m 0 ls []) := by
  obtain ⟨hx, hb, hml, hown, hts, hr, hlocks, hK, hBs⟩ := id C
  unfold f_Pm_exactPrices_b0 at hf
  refine lv_aload_n hx hb d_Pm_exactPrices_0 rfl (lv_at hl 0 rfl) ?_
  refine lv_aload_n hx hb d_Pm_exactPrices_1 rfl (lv_at hl 1 rfl) ?_
  refine lv_aload_n hx hb d_Pm_exactPrices_2 rfl (lv_at hl 2 rfl) ?_
  refine lv_iconst (v := 0) hx hb d_Pm_exactPrices_3 (by decide) ?_
  have ⟨h4, hf⟩ := gd_e hf
  have ⟨x1, w2, h3, hf⟩ := kl_e hf
  refine g_ki0 (g_rV (As := [.ref (B + a1), .ref (B + a2), .int 0]) (rest := []) hx hb hml hown hts hK hR hS (c_Pm_begin l D cA oc B N a0 a1 a2 0 w h3) I_Pm_begin m_622 mp_19 (gRecv hK hR (ci := 10) rfl h4) rfl rfl (Nat.le_of_ble_eq_true rfl) hl.1 ⟨Nat.le_of_ble_eq_true rfl, Nat.le_of_ble_eq_true rfl⟩ ⟨Nat.le_of_ble_eq_true rfl, Nat.le_of_ble_eq_true rfl⟩ d_Pm_exactPrices_4) hS (fun H locs hR hS => ?_)
  refine lv_istore_n (lv' := [(3, .int x1), (0, .ref (B + a0)), (1, .ref (B + a1)), (2, .ref (B + a2))]) hx hb d_Pm_exactPrices_7 rfl hl (by decide) rfl (fun ls hl => ?_)
  refine lv_lconst (v := 0) hx hb d_Pm_exactPrices_8 (by decide) ?_
  refine lv_lstore (lv' := [(4, .long 0), (3, .int x1), (0, .ref (B + a0)), (1, .ref (B + a1)), (2, .ref (B + a2))]) hx hb d_Pm_exactPrices_9 hl (by decide) rfl (fun ls hl => ?_)
  refine lv_iconst (v := 0) hx hb d_Pm_exactPrices_11 (by decide) ?_
  refine lv_istore (lv' := [(6, .int 0), (4, .long 0), (3, .int x1), (0, .ref (B + a0)), (1, .ref (B + a1)), (2, .ref (B + a2))]) hx hb d_Pm_exactPrices_12 hl (by decide) rfl (fun ls hl => ?_)
  exact c_Pm_exactPrices_l14 C a0 x1 0 0 w2 (lv_sub hl [3, 2, 1, 0] rfl) hf hR hS
theorem c_Pm_exactPrices (l : Launch) (D : va_G) (cA : Nat → ClassId) (oc : gO) (B N : Nat) (a0 : Nat) (a1 : Nat) (a2 : Nat) (w : gW) {wz : gW} {r : Int32} (hf : f_Pm_exactPrices N a0 a1 a2 w = some (r, wz)) : Met l y_Pm_exactPrices (Cond.code y_Pm_exactPrices b_Pm_exactPrices 7 (some .int) :: lw_good) ({ frames := 6, cells := 0, slots := 0, locals := 162 } : Room) (gPre D cA oc B [.ref (B + a0), .ref (B + a1), .ref (B + a2)] w) (gQi D cA B r wz) 0 0 (gA B) := by
  refine Met.ofW (cc := b_Pm_exactPrices) (maxL := 7) (ret := (some .int)) (by decide +kernel) rfl ?_
  intro p e s m args below meth c s₁ Bd hml hv
  obtain ⟨hargs, C, hR⟩ := gC.enter (l := l) rfl Bd hml hv
  subst hargs
  have hl := lv_entry ([.ref (B + a0), .ref (B + a1), .ref (B + a2)]) (n := 7) (Nat.le_of_ble_eq_true rfl)
  rw [lg_entry_eq]
  generalize (lg_sl ([.ref (B + a0), .ref (B + a1), .ref (B + a2)]) ++ List.replicate (7 - (lg_sl ([.ref (B + a0), .ref (B + a1), .ref (B + a2)])).length) Slot.unset).toArray = ls at hl ⊢
  have hl : lv_has ls 7 [(0, .ref (B + a0)), (1, .ref (B + a1)), (2, .ref (B + a2))] := hl
  exact c_Pm_exactPrices_b0 C a0 a1 a2 w (lv_sub hl [0, 1, 2] rfl) hf hR va_S.rf
theorem d_Pm_settle_0 : decode b_Pm_settle 0 = .ok (.aload_n 0, 1) := by decide +kernel
theorem d_Pm_settle_1 : decode b_Pm_settle 1 = .ok (.getfield 31, 3) := by decide +kernel
theorem d_Pm_settle_4 : decode b_Pm_settle 4 = .ok (.getfield 96, 3) := by decide +kernel
theorem d_Pm_settle_7 : decode b_Pm_settle 7 = .ok (.istore_n 1, 1) := by decide +kernel
theorem d_Pm_settle_8 : decode b_Pm_settle 8 = .ok (.iconst 0, 1) := by decide +kernel
theorem d_Pm_settle_9 : decode b_Pm_settle 9 = .ok (.istore_n 2, 1) := by decide +kernel
theorem d_Pm_settle_10 : decode b_Pm_settle 10 = .ok (.iload_n 2, 1) := by decide +kernel
theorem d_Pm_settle_11 : decode b_Pm_settle 11 = .ok (.bipush 6, 2) := by decide +kernel
theorem d_Pm_settle_13 : decode b_Pm_settle 13 = .ok (.if_icmp .ge 61, 3) := by decide +kernel
theorem d_Pm_settle_16 : decode b_Pm_settle 16 = .ok (.aload_n 0, 1) := by decide +kernel
theorem d_Pm_settle_17 : decode b_Pm_settle 17 = .ok (.getfield 27, 3) := by decide +kernel
theorem d_Pm_settle_20 : decode b_Pm_settle 20 = .ok (.getfield 99, 3) := by decide +kernel
theorem d_Pm_settle_23 : decode b_Pm_settle 23 = .ok (.iload_n 2, 1) := by decide +kernel
theorem d_Pm_settle_24 : decode b_Pm_settle 24 = .ok (.dup2, 1) := by decide +kernel
theorem d_Pm_settle_25 : decode b_Pm_settle 25 = .ok (.iaload, 1) := by decide +kernel
theorem d_Pm_settle_26 : decode b_Pm_settle 26 = .ok (.aload_n 0, 1) := by decide +kernel
theorem d_Pm_settle_27 : decode b_Pm_settle 27 = .ok (.getfield 15, 3) := by decide +kernel
theorem d_Pm_settle_30 : decode b_Pm_settle 30 = .ok (.iload_n 2, 1) := by decide +kernel
theorem d_Pm_settle_31 : decode b_Pm_settle 31 = .ok (.iaload, 1) := by decide +kernel
theorem d_Pm_settle_32 : decode b_Pm_settle 32 = .ok (.aload_n 0, 1) := by decide +kernel
theorem d_Pm_settle_33 : decode b_Pm_settle 33 = .ok (.getfield 18, 3) := by decide +kernel
theorem d_Pm_settle_36 : decode b_Pm_settle 36 = .ok (.iload_n 2, 1) := by decide +kernel
theorem d_Pm_settle_37 : decode b_Pm_settle 37 = .ok (.iaload, 1) := by decide +kernel
theorem d_Pm_settle_38 : decode b_Pm_settle 38 = .ok (.isub, 1) := by decide +kernel
theorem d_Pm_settle_39 : decode b_Pm_settle 39 = .ok (.iadd, 1) := by decide +kernel
theorem d_Pm_settle_40 : decode b_Pm_settle 40 = .ok (.iastore, 1) := by decide +kernel
theorem d_Pm_settle_41 : decode b_Pm_settle 41 = .ok (.aload_n 0, 1) := by decide +kernel
theorem d_Pm_settle_42 : decode b_Pm_settle 42 = .ok (.getfield 27, 3) := by decide +kernel
theorem d_Pm_settle_45 : decode b_Pm_settle 45 = .ok (.getfield 104, 3) := by decide +kernel
theorem d_Pm_settle_48 : decode b_Pm_settle 48 = .ok (.iload_n 1, 1) := by decide +kernel
theorem d_Pm_settle_49 : decode b_Pm_settle 49 = .ok (.aaload, 1) := by decide +kernel
theorem d_Pm_settle_50 : decode b_Pm_settle 50 = .ok (.iload_n 2, 1) := by decide +kernel
theorem d_Pm_settle_51 : decode b_Pm_settle 51 = .ok (.dup2, 1) := by decide +kernel
theorem d_Pm_settle_52 : decode b_Pm_settle 52 = .ok (.iaload, 1) := by decide +kernel
theorem d_Pm_settle_53 : decode b_Pm_settle 53 = .ok (.aload_n 0, 1) := by decide +kernel
theorem d_Pm_settle_54 : decode b_Pm_settle 54 = .ok (.getfield 18, 3) := by decide +kernel
theorem d_Pm_settle_57 : decode b_Pm_settle 57 = .ok (.iload_n 2, 1) := by decide +kernel
theorem d_Pm_settle_58 : decode b_Pm_settle 58 = .ok (.iaload, 1) := by decide +kernel
theorem d_Pm_settle_59 : decode b_Pm_settle 59 = .ok (.aload_n 0, 1) := by decide +kernel
theorem d_Pm_settle_60 : decode b_Pm_settle 60 = .ok (.getfield 15, 3) := by decide +kernel
theorem d_Pm_settle_63 : decode b_Pm_settle 63 = .ok (.iload_n 2, 1) := by decide +kernel
theorem d_Pm_settle_64 : decode b_Pm_settle 64 = .ok (.iaload, 1) := by decide +kernel
theorem d_Pm_settle_65 : decode b_Pm_settle 65 = .ok (.isub, 1) := by decide +kernel
theorem d_Pm_settle_66 : decode b_Pm_settle 66 = .ok (.iadd, 1) := by decide +kernel
theorem d_Pm_settle_67 : decode b_Pm_settle 67 = .ok (.iastore, 1) := by decide +kernel
theorem d_Pm_settle_68 : decode b_Pm_settle 68 = .ok (.iinc 2 1, 3) := by decide +kernel
theorem d_Pm_settle_71 : decode b_Pm_settle 71 = .ok (.goto (-61), 3) := by decide +kernel
theorem d_Pm_settle_74 : decode b_Pm_settle 74 = .ok (.aload_n 0, 1) := by decide +kernel
theorem d_Pm_settle_75 : decode b_Pm_settle 75 = .ok (.getfield 27, 3) := by decide +kernel
theorem d_Pm_settle_78 : decode b_Pm_settle 78 = .ok (.getfield 108, 3) := by decide +kernel
theorem d_Pm_settle_81 : decode b_Pm_settle 81 = .ok (.iload_n 1, 1) := by decide +kernel
theorem d_Pm_settle_82 : decode b_Pm_settle 82 = .ok (.sipush 9999, 3) := by decide +kernel
theorem d_Pm_settle_85 : decode b_Pm_settle 85 = .ok (.aload_n 0, 1) := by decide +kernel
theorem d_Pm_settle_86 : decode b_Pm_settle 86 = .ok (.getfield 27, 3) := by decide +kernel
theorem d_Pm_settle_89 : decode b_Pm_settle 89 = .ok (.getfield 108, 3) := by decide +kernel
theorem d_Pm_settle_92 : decode b_Pm_settle 92 = .ok (.iload_n 1, 1) := by decide +kernel
theorem d_Pm_settle_93 : decode b_Pm_settle 93 = .ok (.iaload, 1) := by decide +kernel
theorem d_Pm_settle_94 : decode b_Pm_settle 94 = .ok (.iconst 1, 1) := by decide +kernel
theorem d_Pm_settle_95 : decode b_Pm_settle 95 = .ok (.iadd, 1) := by decide +kernel
theorem d_Pm_settle_96 : decode b_Pm_settle 96 = .ok (.invokestatic 84, 3) := by decide +kernel
theorem d_Pm_settle_99 : decode b_Pm_settle 99 = .ok (.iastore, 1) := by decide +kernel
theorem d_Pm_settle_100 : decode b_Pm_settle 100 = .ok (.return_, 1) := by decide +kernel
set_option maxRecDepth 20000 in
theorem c_Pm_settle_b10 {r : Unit} {wz : gW} {rec10 : Nat × Int32 × Int32 × gW → Option (Unit × gW)} (ih10 : ∀ (a0 : Nat) (a1 : Int32) (a2 : Int32) (w : gW) (ls : Array Slot) (H : Heap) (locs : List Loc), rec10 (a0, a1, a2, w) = some (r, wz) → lv_has ls 3 [(0, .ref (B + a0)), (1, .int a1), (2, .int a2)] → gRep D cA B w H → va_S (gA B) s.heap H locs → W p l e ({ frames := 1, cells := 0, slots := 0, locals := 60 } : Room) s m args below meth c H locs 0 0 (MQ below (gQv D cA B r wz) args s 0 0 (gA B)) (F0 m 10 ls [])) (C : gC p s m args meth c "RidCoppers$Payment" b_Pm_settle 3 none D cA oc B) (a0 : Nat) (a1 : Int32) (a2 : Int32) (w : gW) {ls : Array Slot} {H : Heap} {locs : List Loc} (hl : lv_has ls 3 [(0, .ref (B + a0)), (1, .int a1), (2, .int a2)]) (hf : f_Pm_settle_b10 N rec10 a0 a1 a2 w = some (r, wz)) (hR : gRep D cA B w H) (hS : va_S (gA B) s.heap H locs) : W p l e ({ frames := 1, cells := 0, slots := 0, locals := 60 } : Room) s m args below meth c H locs 0 0 (MQ below (gQv D cA B r wz) args s 0 0 (gA B)) (F0 m 10 ls []) := by
  obtain ⟨hx, hb, hml, hown, hts, hr, hlocks, hK, hBs⟩ := id C
  unfold f_Pm_settle_b10 at hf
  refine lv_iload_n hx hb d_Pm_settle_10 rfl (lv_at hl 2 rfl) ?_
  refine lv_bipush (v := 6) hx hb d_Pm_settle_11 (by decide) ?_
  refine lv_icmp_ge (tgt := 74) hx hb d_Pm_settle_13 (by decide) (fun hc => ?_) (fun hc => ?_)
  · have hf := cd_t hc hf
    refine lv_aload_n hx hb d_Pm_settle_74 rfl (lv_at hl 0 rfl) ?_
    have ⟨h6, hf⟩ := gd_e hf
    have ⟨x7, h8, hf⟩ := rr_e hf
    refine g_getR hx hb hts hown hK hR fl_Pm_27 (fun _ => rfl) h6 h8 d_Pm_settle_75 ?_
    have ⟨h9, hf⟩ := gd_e hf
    have ⟨x10, h11, hf⟩ := rr_e hf
    refine g_getR hx hb hts hown hK hR fl_Pm_108 (fun _ => rfl) h9 h11 d_Pm_settle_78 ?_
    refine lv_iload_n hx hb d_Pm_settle_81 rfl (lv_at hl 1 rfl) ?_
    refine lv_sipush (v := 9999) hx hb d_Pm_settle_82 (by decide) ?_
    refine lv_aload_n hx hb d_Pm_settle_85 rfl (lv_at hl 0 rfl) ?_
    refine g_getR hx hb hts hown hK hR fl_Pm_27 (fun _ => rfl) h6 h8 d_Pm_settle_86 ?_
    refine g_getR hx hb hts hown hK hR fl_Pm_108 (fun _ => rfl) h9 h11 d_Pm_settle_89 ?_
    refine lv_iload_n hx hb d_Pm_settle_92 rfl (lv_at hl 1 rfl) ?_
    have ⟨h12, hf⟩ := gd_e hf
    have ⟨h13, hf⟩ := gd_e hf
    refine g_iald hx hb hK hR h12 h13 d_Pm_settle_93 ?_
    refine g_nI hf (fun x14 hf => ?_)
    refine lv_iconst (v := 1) hx hb d_Pm_settle_94 (by decide) ?_
    refine lv_iadd hx hb d_Pm_settle_95 ?_
    refine g_nI hf (fun x15 hf => ?_)
    refine va_mmin hx hb (hml.trans hl.1.symm) hown (hts _ m_642) (hts _ m_553) (hts _ m_18) (hts _ m_554) (Nat.le_of_ble_eq_true rfl) (Nat.le_of_ble_eq_true rfl) (Nat.zero_le _) (Nat.zero_le _) d_Pm_settle_96 ?_
    refine g_nI hf (fun x16 hf => ?_)
    refine g_iast hx hb hK hR hS h12 h13 d_Pm_settle_99 (fun H locs hR hS => ?_)
    refine g_nW hf hR (fun w17 hf hR => ?_)
    exact g_vret hx hb hr hlocks hR hS hf d_Pm_settle_100
  have hf := cd_f hc hf
  refine lv_aload_n hx hb d_Pm_settle_16 rfl (lv_at hl 0 rfl) ?_
  have ⟨h18, hf⟩ := gd_e hf
  have ⟨x19, h20, hf⟩ := rr_e hf
  refine g_getR hx hb hts hown hK hR fl_Pm_27 (fun _ => rfl) h18 h20 d_Pm_settle_17 ?_
  have ⟨h21, hf⟩ := gd_e hf
  have ⟨x22, h23, hf⟩ := rr_e hf
  refine g_getR hx hb hts hown hK hR fl_Pm_99 (fun _ => rfl) h21 h23 d_Pm_settle_20 ?_
  refine lv_iload_n hx hb d_Pm_settle_23 rfl (lv_at hl 2 rfl) ?_
  refine lv_dup2_11 hx hb d_Pm_settle_24 rfl rfl ?_
  have ⟨h24, hf⟩ := gd_e hf
  have ⟨h25, hf⟩ := gd_e hf
  refine g_iald hx hb hK hR h24 h25 d_Pm_settle_25 ?_
  refine g_nI hf (fun x26 hf => ?_)
  refine lv_aload_n hx hb d_Pm_settle_26 rfl (lv_at hl 0 rfl) ?_
  have ⟨x27, h28, hf⟩ := rr_e hf
  refine g_getR hx hb hts hown hK hR fl_Pm_15 (fun _ => rfl) h18 h28 d_Pm_settle_27 ?_
  refine lv_iload_n hx hb d_Pm_settle_30 rfl (lv_at hl 2 rfl) ?_
  have ⟨h29, hf⟩ := gd_e hf
  have ⟨h30, hf⟩ := gd_e hf
  refine g_iald hx hb hK hR h29 h30 d_Pm_settle_31 ?_
  refine g_nI hf (fun x31 hf => ?_)
  refine lv_aload_n hx hb d_Pm_settle_32 rfl (lv_at hl 0 rfl) ?_
  have ⟨x32, h33, hf⟩ := rr_e hf
  refine g_getR hx hb hts hown hK hR fl_Pm_18 (fun _ => rfl) h18 h33 d_Pm_settle_33 ?_
  refine lv_iload_n hx hb d_Pm_settle_36 rfl (lv_at hl 2 rfl) ?_
  have ⟨h34, hf⟩ := gd_e hf
  have ⟨h35, hf⟩ := gd_e hf
  refine g_iald hx hb hK hR h34 h35 d_Pm_settle_37 ?_
  refine g_nI hf (fun x36 hf => ?_)
  refine lv_isub hx hb d_Pm_settle_38 ?_
  refine g_nI hf (fun x37 hf => ?_)
  refine lv_iadd hx hb d_Pm_settle_39 ?_
  refine g_nI hf (fun x38 hf => ?_)
  refine g_iast hx hb hK hR hS h24 h25 d_Pm_settle_40 (fun H locs hR hS => ?_)
  refine g_nW hf hR (fun w39 hf hR => ?_)
  refine lv_aload_n hx hb d_Pm_settle_41 rfl (lv_at hl 0 rfl) ?_
  have ⟨h40, hf⟩ := gd_e hf
  have ⟨x41, h42, hf⟩ := rr_e hf
  refine g_getR hx hb hts hown hK hR fl_Pm_27 (fun _ => rfl) h40 h42 d_Pm_settle_42 ?_
  have ⟨h43, hf⟩ := gd_e hf
  have ⟨x44, h45, hf⟩ := rr_e hf
  refine g_getR hx hb hts hown hK hR fl_Pm_104 (fun _ => rfl) h43 h45 d_Pm_settle_45 ?_
  refine lv_iload_n hx hb d_Pm_settle_48 rfl (lv_at hl 1 rfl) ?_
  have ⟨h46, hf⟩ := gd_e hf
  have ⟨h47, hf⟩ := gd_e hf
  have ⟨x48, h49, hf⟩ := rr_e hf
  refine g_aald hx hb hK hR (by decide) rfl (fun _ _ => rfl) h46 h47 h49 d_Pm_settle_49 ?_
  refine lv_iload_n hx hb d_Pm_settle_50 rfl (lv_at hl 2 rfl) ?_
  refine lv_dup2_11 hx hb d_Pm_settle_51 rfl rfl ?_
  have ⟨h50, hf⟩ := gd_e hf
  have ⟨h51, hf⟩ := gd_e hf
  refine g_iald hx hb hK hR h50 h51 d_Pm_settle_52 ?_
  refine g_nI hf (fun x52 hf => ?_)
  refine lv_aload_n hx hb d_Pm_settle_53 rfl (lv_at hl 0 rfl) ?_
  have ⟨x53, h54, hf⟩ := rr_e hf
  refine g_getR hx hb hts hown hK hR fl_Pm_18 (fun _ => rfl) h40 h54 d_Pm_settle_54 ?_
  refine lv_iload_n hx hb d_Pm_settle_57 rfl (lv_at hl 2 rfl) ?_
  have ⟨h55, hf⟩ := gd_e hf
  have ⟨h56, hf⟩ := gd_e hf
  refine g_iald hx hb hK hR h55 h56 d_Pm_settle_58 ?_
  refine g_nI hf (fun x57 hf => ?_)
  refine lv_aload_n hx hb d_Pm_settle_59 rfl (lv_at hl 0 rfl) ?_
  have ⟨x58, h59, hf⟩ := rr_e hf
  refine g_getR hx hb hts hown hK hR fl_Pm_15 (fun _ => rfl) h40 h59 d_Pm_settle_60 ?_
  refine lv_iload_n hx hb d_Pm_settle_63 rfl (lv_at hl 2 rfl) ?_
  have ⟨h60, hf⟩ := gd_e hf
  have ⟨h61, hf⟩ := gd_e hf
  refine g_iald hx hb hK hR h60 h61 d_Pm_settle_64 ?_
  refine g_nI hf (fun x62 hf => ?_)
  refine lv_isub hx hb d_Pm_settle_65 ?_
  refine g_nI hf (fun x63 hf => ?_)
  refine lv_iadd hx hb d_Pm_settle_66 ?_
  refine g_nI hf (fun x64 hf => ?_)
  refine g_iast hx hb hK hR hS h50 h51 d_Pm_settle_67 (fun H locs hR hS => ?_)
  refine g_nW hf hR (fun w65 hf hR => ?_)
  refine g_iinc (lv' := fun x66 => [(2, .int x66), (0, .ref (B + a0)), (1, .int a1)]) hf hx hb d_Pm_settle_68 hl (k := 2) rfl (by decide) (by decide) (fun _ => rfl) (fun x66 ls hf hl => ?_)
  refine lv_goto (tgt := 10) hx hb d_Pm_settle_71 (by decide) ?_
  exact ih10 a0 a1 x66 w65 _ _ _ hf (lv_sub hl [1, 2, 0] rfl) hR hS
theorem c_Pm_settle_l10 {r : Unit} {wz : gW} (C : gC p s m args meth c "RidCoppers$Payment" b_Pm_settle 3 none D cA oc B) (a0 : Nat) (a1 : Int32) (a2 : Int32) (w : gW) {ls : Array Slot} {H : Heap} {locs : List Loc} (hl : lv_has ls 3 [(0, .ref (B + a0)), (1, .int a1), (2, .int a2)]) (hf : f_Pm_settle_l10 N a0 a1 a2 w = some (r, wz)) (hR : gRep D cA B w H) (hS : va_S (gA B) s.heap H locs) : W p l e ({ frames := 1, cells := 0, slots := 0, locals := 60 } : Room) s m args below meth c H locs 0 0 (MQ below (gQv D cA B r wz) args s 0 0 (gA B)) (F0 m 10 ls []) := by
  unfold f_Pm_settle_l10 at hf
  suffices hh : ∀ n : Nat, ∀ (a0 : Nat) (a1 : Int32) (a2 : Int32) (w : gW) (ls : Array Slot) (H : Heap) (locs : List Loc), itr (fun rec (q : Nat × Int32 × Int32 × gW) => f_Pm_settle_b10 N rec q.1 q.2.1 q.2.2.1 q.2.2.2) n (a0, a1, a2, w) = some (r, wz) → lv_has ls 3 [(0, .ref (B + a0)), (1, .int a1), (2, .int a2)] → gRep D cA B w H → va_S (gA B) s.heap H locs → W p l e ({ frames := 1, cells := 0, slots := 0, locals := 60 } : Room) s m args below meth c H locs 0 0 (MQ below (gQv D cA B r wz) args s 0 0 (gA B)) (F0 m 10 ls []) from hh N a0 a1 a2 w ls H locs hf hl hR hS
  intro n
  induction n with
  | zero => intro a0 a1 a2 w ls H locs hf; cases hf
  | succ n ihn =>
    intro a0 a1 a2 w ls H locs hf hl hR hS
    exact c_Pm_settle_b10 (N := N) ihn C a0 a1 a2 w hl ((itr_s _ _ _).symm.trans hf) hR hS
set_option maxRecDepth 20000 in
theorem c_Pm_settle_b0 {r : Unit} {wz : gW} (C : gC p s m args meth c "RidCoppers$Payment" b_Pm_settle 3 none D cA oc B) (a0 : Nat) (w : gW) {ls : Array Slot} {H : Heap} {locs : List Loc} (hl : lv_has ls 3 [(0, .ref (B + a0))]) (hf : f_Pm_settle_b0 N a0 w = some (r, wz)) (hR : gRep D cA B w H) (hS : va_S (gA B) s.heap H locs) : W p l e ({ frames := 1, cells := 0, slots := 0, locals := 60 } : Room) s m args below meth c H locs 0 0 (MQ below (gQv D cA B r wz) args s 0 0 (gA B)) (F0 m 0 ls []) := by
  obtain ⟨hx, hb, hml, hown, hts, hr, hlocks, hK, hBs⟩ := id C
  unfold f_Pm_settle_b0 at hf
  refine lv_aload_n hx hb d_Pm_settle_0 rfl (lv_at hl 0 rfl) ?_
  have ⟨h1, hf⟩ := gd_e hf
  have ⟨x2, h3, hf⟩ := rr_e hf
  refine g_getR hx hb hts hown hK hR fl_Pm_31 (fun _ => rfl) h1 h3 d_Pm_settle_1 ?_
  have ⟨h4, hf⟩ := gd_e hf
  refine g_getI hx hb hts hown hK hR (flP_Pm_96 _ h4) (payv h4) rfl d_Pm_settle_4 ?_
  refine g_nI hf (fun x5 hf => ?_)
  refine lv_istore_n (lv' := [(1, .int x5), (0, .ref (B + a0))]) hx hb d_Pm_settle_7 rfl hl (by decide) rfl (fun ls hl => ?_)
  refine lv_iconst (v := 0) hx hb d_Pm_settle_8 (by decide) ?_
  refine lv_istore_n (lv' := [(2, .int 0), (1, .int x5), (0, .ref (B + a0))]) hx hb d_Pm_settle_9 rfl hl (by decide) rfl (fun ls hl => ?_)
  exact c_Pm_settle_l10 C a0 x5 0 w (lv_sub hl [2, 1, 0] rfl) hf hR hS
theorem c_Pm_settle (l : Launch) (D : va_G) (cA : Nat → ClassId) (oc : gO) (B N : Nat) (a0 : Nat) (w : gW) {wz : gW} {r : Unit} (hf : f_Pm_settle N a0 w = some (r, wz)) : Met l y_Pm_settle (Cond.code y_Pm_settle b_Pm_settle 3 none :: lw_good) ({ frames := 1, cells := 0, slots := 0, locals := 60 } : Room) (gPre D cA oc B [.ref (B + a0)] w) (gQv D cA B r wz) 0 0 (gA B) := by
  refine Met.ofW (cc := b_Pm_settle) (maxL := 3) (ret := none) (by decide +kernel) rfl ?_
  intro p e s m args below meth c s₁ Bd hml hv
  obtain ⟨hargs, C, hR⟩ := gC.enter (l := l) rfl Bd hml hv
  subst hargs
  have hl := lv_entry ([.ref (B + a0)]) (n := 3) (Nat.le_of_ble_eq_true rfl)
  rw [lg_entry_eq]
  generalize (lg_sl ([.ref (B + a0)]) ++ List.replicate (3 - (lg_sl ([.ref (B + a0)])).length) Slot.unset).toArray = ls at hl ⊢
  have hl : lv_has ls 3 [(0, .ref (B + a0))] := hl
  exact c_Pm_settle_b0 C a0 w (lv_sub hl [0] rfl) hf hR va_S.rf
