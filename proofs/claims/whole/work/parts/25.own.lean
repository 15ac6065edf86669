variable {p : Program} {l : Launch} {e : Env} {s : State} {m : MethodId} {args : Array Value} {below : List Frame} {meth : Method} {c : Code} {D : va_G} {cA : Nat → ClassId} {oc : gO} {B N : Nat}
theorem d_X_init_0 : decode b_X_init 0 = .ok (.aload_n 0, 1) := by decide +kernel
theorem d_X_init_1 : decode b_X_init 1 = .ok (.invokespecial 3, 3) := by decide +kernel
theorem d_X_init_4 : decode b_X_init 4 = .ok (.aload_n 0, 1) := by decide +kernel
theorem d_X_init_5 : decode b_X_init 5 = .ok (.new 9, 3) := by decide +kernel
theorem d_X_init_8 : decode b_X_init 8 = .ok (.dup, 1) := by decide +kernel
theorem d_X_init_9 : decode b_X_init 9 = .ok (.invokespecial 11, 3) := by decide +kernel
theorem d_X_init_12 : decode b_X_init 12 = .ok (.putfield 12, 3) := by decide +kernel
theorem d_X_init_15 : decode b_X_init 15 = .ok (.aload_n 0, 1) := by decide +kernel
theorem d_X_init_16 : decode b_X_init 16 = .ok (.new 18, 3) := by decide +kernel
theorem d_X_init_19 : decode b_X_init 19 = .ok (.dup, 1) := by decide +kernel
theorem d_X_init_20 : decode b_X_init 20 = .ok (.aload_n 0, 1) := by decide +kernel
theorem d_X_init_21 : decode b_X_init 21 = .ok (.getfield 12, 3) := by decide +kernel
theorem d_X_init_24 : decode b_X_init 24 = .ok (.invokespecial 20, 3) := by decide +kernel
theorem d_X_init_27 : decode b_X_init 27 = .ok (.putfield 23, 3) := by decide +kernel
theorem d_X_init_30 : decode b_X_init 30 = .ok (.aload_n 0, 1) := by decide +kernel
theorem d_X_init_31 : decode b_X_init 31 = .ok (.new 18, 3) := by decide +kernel
theorem d_X_init_34 : decode b_X_init 34 = .ok (.dup, 1) := by decide +kernel
theorem d_X_init_35 : decode b_X_init 35 = .ok (.aload_n 0, 1) := by decide +kernel
theorem d_X_init_36 : decode b_X_init 36 = .ok (.getfield 12, 3) := by decide +kernel
theorem d_X_init_39 : decode b_X_init 39 = .ok (.invokespecial 20, 3) := by decide +kernel
theorem d_X_init_42 : decode b_X_init 42 = .ok (.putfield 27, 3) := by decide +kernel
theorem d_X_init_45 : decode b_X_init 45 = .ok (.aload_n 0, 1) := by decide +kernel
theorem d_X_init_46 : decode b_X_init 46 = .ok (.new 18, 3) := by decide +kernel
theorem d_X_init_49 : decode b_X_init 49 = .ok (.dup, 1) := by decide +kernel
theorem d_X_init_50 : decode b_X_init 50 = .ok (.aload_n 0, 1) := by decide +kernel
theorem d_X_init_51 : decode b_X_init 51 = .ok (.getfield 12, 3) := by decide +kernel
theorem d_X_init_54 : decode b_X_init 54 = .ok (.invokespecial 20, 3) := by decide +kernel
theorem d_X_init_57 : decode b_X_init 57 = .ok (.putfield 30, 3) := by decide +kernel
theorem d_X_init_60 : decode b_X_init 60 = .ok (.aload_n 0, 1) := by decide +kernel
theorem d_X_init_61 : decode b_X_init 61 = .ok (.iconst 0, 1) := by decide +kernel
theorem d_X_init_62 : decode b_X_init 62 = .ok (.putfield 33, 3) := by decide +kernel
theorem d_X_init_65 : decode b_X_init 65 = .ok (.aload_n 0, 1) := by decide +kernel
theorem d_X_init_66 : decode b_X_init 66 = .ok (.new 37, 3) := by decide +kernel
theorem d_X_init_69 : decode b_X_init 69 = .ok (.dup, 1) := by decide +kernel
theorem d_X_init_70 : decode b_X_init 70 = .ok (.invokespecial 39, 3) := by decide +kernel
theorem d_X_init_73 : decode b_X_init 73 = .ok (.putfield 40, 3) := by decide +kernel
theorem d_X_init_76 : decode b_X_init 76 = .ok (.aload_n 0, 1) := by decide +kernel
theorem d_X_init_77 : decode b_X_init 77 = .ok (.bipush 6, 2) := by decide +kernel
theorem d_X_init_79 : decode b_X_init 79 = .ok (.anewarray 9, 3) := by decide +kernel
theorem d_X_init_82 : decode b_X_init 82 = .ok (.putfield 44, 3) := by decide +kernel
theorem d_X_init_85 : decode b_X_init 85 = .ok (.aload_n 0, 1) := by decide +kernel
theorem d_X_init_86 : decode b_X_init 86 = .ok (.iconst 0, 1) := by decide +kernel
theorem d_X_init_87 : decode b_X_init 87 = .ok (.putfield 48, 3) := by decide +kernel
theorem d_X_init_90 : decode b_X_init 90 = .ok (.aload_n 0, 1) := by decide +kernel
theorem d_X_init_91 : decode b_X_init 91 = .ok (.bipush 100, 2) := by decide +kernel
theorem d_X_init_93 : decode b_X_init 93 = .ok (.newarray .byte, 2) := by decide +kernel
theorem d_X_init_95 : decode b_X_init 95 = .ok (.putfield 52, 3) := by decide +kernel
theorem d_X_init_98 : decode b_X_init 98 = .ok (.aload_n 0, 1) := by decide +kernel
theorem d_X_init_99 : decode b_X_init 99 = .ok (.iconst 0, 1) := by decide +kernel
theorem d_X_init_100 : decode b_X_init 100 = .ok (.putfield 56, 3) := by decide +kernel
theorem d_X_init_103 : decode b_X_init 103 = .ok (.aload_n 0, 1) := by decide +kernel
theorem d_X_init_104 : decode b_X_init 104 = .ok (.new 59, 3) := by decide +kernel
theorem d_X_init_107 : decode b_X_init 107 = .ok (.dup, 1) := by decide +kernel
theorem d_X_init_108 : decode b_X_init 108 = .ok (.invokespecial 61, 3) := by decide +kernel
theorem d_X_init_111 : decode b_X_init 111 = .ok (.putfield 62, 3) := by decide +kernel
theorem d_X_init_114 : decode b_X_init 114 = .ok (.aload_n 0, 1) := by decide +kernel
theorem d_X_init_115 : decode b_X_init 115 = .ok (.bipush 6, 2) := by decide +kernel
theorem d_X_init_117 : decode b_X_init 117 = .ok (.newarray .int, 2) := by decide +kernel
theorem d_X_init_119 : decode b_X_init 119 = .ok (.putfield 66, 3) := by decide +kernel
theorem d_X_init_122 : decode b_X_init 122 = .ok (.aload_n 0, 1) := by decide +kernel
theorem d_X_init_123 : decode b_X_init 123 = .ok (.bipush 6, 2) := by decide +kernel
theorem d_X_init_125 : decode b_X_init 125 = .ok (.newarray .int, 2) := by decide +kernel
theorem d_X_init_127 : decode b_X_init 127 = .ok (.putfield 70, 3) := by decide +kernel
theorem d_X_init_130 : decode b_X_init 130 = .ok (.aload_n 0, 1) := by decide +kernel
theorem d_X_init_131 : decode b_X_init 131 = .ok (.bipush 6, 2) := by decide +kernel
theorem d_X_init_133 : decode b_X_init 133 = .ok (.bipush 60, 2) := by decide +kernel
theorem d_X_init_135 : decode b_X_init 135 = .ok (.multianewarray 73 2, 4) := by decide +kernel
theorem d_X_init_139 : decode b_X_init 139 = .ok (.putfield 75, 3) := by decide +kernel
theorem d_X_init_142 : decode b_X_init 142 = .ok (.iconst 0, 1) := by decide +kernel
theorem d_X_init_143 : decode b_X_init 143 = .ok (.istore_n 1, 1) := by decide +kernel
theorem d_X_init_144 : decode b_X_init 144 = .ok (.iload_n 1, 1) := by decide +kernel
theorem d_X_init_145 : decode b_X_init 145 = .ok (.bipush 6, 2) := by decide +kernel
theorem d_X_init_147 : decode b_X_init 147 = .ok (.if_icmp .ge 20, 3) := by decide +kernel
theorem d_X_init_150 : decode b_X_init 150 = .ok (.aload_n 0, 1) := by decide +kernel
theorem d_X_init_151 : decode b_X_init 151 = .ok (.getfield 23, 3) := by decide +kernel
theorem d_X_init_154 : decode b_X_init 154 = .ok (.getfield 78, 3) := by decide +kernel
theorem d_X_init_157 : decode b_X_init 157 = .ok (.iload_n 1, 1) := by decide +kernel
theorem d_X_init_158 : decode b_X_init 158 = .ok (.bipush 9, 2) := by decide +kernel
theorem d_X_init_160 : decode b_X_init 160 = .ok (.iastore, 1) := by decide +kernel
theorem d_X_init_161 : decode b_X_init 161 = .ok (.iinc 1 1, 3) := by decide +kernel
theorem d_X_init_164 : decode b_X_init 164 = .ok (.goto (-20), 3) := by decide +kernel
theorem d_X_init_167 : decode b_X_init 167 = .ok (.iconst 0, 1) := by decide +kernel
theorem d_X_init_168 : decode b_X_init 168 = .ok (.istore_n 1, 1) := by decide +kernel
theorem d_X_init_169 : decode b_X_init 169 = .ok (.iload_n 1, 1) := by decide +kernel
theorem d_X_init_170 : decode b_X_init 170 = .ok (.bipush 6, 2) := by decide +kernel
theorem d_X_init_172 : decode b_X_init 172 = .ok (.if_icmp .ge 22, 3) := by decide +kernel
theorem d_X_init_175 : decode b_X_init 175 = .ok (.aload_n 0, 1) := by decide +kernel
theorem d_X_init_176 : decode b_X_init 176 = .ok (.getfield 44, 3) := by decide +kernel
theorem d_X_init_179 : decode b_X_init 179 = .ok (.iload_n 1, 1) := by decide +kernel
theorem d_X_init_180 : decode b_X_init 180 = .ok (.new 9, 3) := by decide +kernel
theorem d_X_init_183 : decode b_X_init 183 = .ok (.dup, 1) := by decide +kernel
theorem d_X_init_184 : decode b_X_init 184 = .ok (.invokespecial 11, 3) := by decide +kernel
theorem d_X_init_187 : decode b_X_init 187 = .ok (.aastore, 1) := by decide +kernel
theorem d_X_init_188 : decode b_X_init 188 = .ok (.iinc 1 1, 3) := by decide +kernel
theorem d_X_init_191 : decode b_X_init 191 = .ok (.goto (-22), 3) := by decide +kernel
theorem d_X_init_194 : decode b_X_init 194 = .ok (.iconst 0, 1) := by decide +kernel
theorem d_X_init_195 : decode b_X_init 195 = .ok (.istore_n 1, 1) := by decide +kernel
theorem d_X_init_196 : decode b_X_init 196 = .ok (.iload_n 1, 1) := by decide +kernel
theorem d_X_init_197 : decode b_X_init 197 = .ok (.bipush 6, 2) := by decide +kernel
theorem d_X_init_199 : decode b_X_init 199 = .ok (.if_icmp .ge 16, 3) := by decide +kernel
theorem d_X_init_202 : decode b_X_init 202 = .ok (.aload_n 0, 1) := by decide +kernel
theorem d_X_init_203 : decode b_X_init 203 = .ok (.getfield 66, 3) := by decide +kernel
theorem d_X_init_206 : decode b_X_init 206 = .ok (.iload_n 1, 1) := by decide +kernel
theorem d_X_init_207 : decode b_X_init 207 = .ok (.iconst (-1), 1) := by decide +kernel
theorem d_X_init_208 : decode b_X_init 208 = .ok (.iastore, 1) := by decide +kernel
theorem d_X_init_209 : decode b_X_init 209 = .ok (.iinc 1 1, 3) := by decide +kernel
theorem d_X_init_212 : decode b_X_init 212 = .ok (.goto (-16), 3) := by decide +kernel
theorem d_X_init_215 : decode b_X_init 215 = .ok (.return_, 1) := by decide +kernel
set_option maxRecDepth 20000 in
theorem c_X_init_b196 {r : Unit} {wz : gW} {rec196 : Nat × Int32 × Nat × Nat × gW → Option (Unit × gW)} (ih196 : ∀ (a0 : Nat) (a1 : Int32) (kc : Nat) (ks : Nat) (w : gW) (ls : Array Slot) (H : Heap) (locs : List Loc), rec196 (a0, a1, kc, ks, w) = some (r, wz) → lv_has ls 2 [(0, .ref (B + a0)), (1, .int a1)] → gRep D cA B w H → va_S (gA B) s.heap H locs → W p l e ({ frames := 2, cells := 132, slots := 2016, locals := 81 } : Room) s m args below meth c H locs kc ks (MQ below (gQv D cA B r wz) args s 132 2016 (gA B)) (F0 m 196 ls [])) (C : gC p s m args meth c "RidCoppers" b_X_init 2 none D cA oc B) (hin : meth.name = "<init>") (a0 : Nat) (a1 : Int32) (kc : Nat) (ks : Nat) (w : gW) {ls : Array Slot} {H : Heap} {locs : List Loc} (hl : lv_has ls 2 [(0, .ref (B + a0)), (1, .int a1)]) (hf : f_X_init_b196 N rec196 a0 a1 kc ks w = some (r, wz)) (hR : gRep D cA B w H) (hS : va_S (gA B) s.heap H locs) : W p l e ({ frames := 2, cells := 132, slots := 2016, locals := 81 } : Room) s m args below meth c H locs kc ks (MQ below (gQv D cA B r wz) args s 132 2016 (gA B)) (F0 m 196 ls []) := by
  obtain ⟨hx, hb, hml, hown, hts, hr, hlocks, hK, hBs⟩ := id C
  unfold f_X_init_b196 at hf
  refine lv_iload_n hx hb d_X_init_196 rfl (lv_at hl 1 rfl) ?_
  refine lv_bipush (v := 6) hx hb d_X_init_197 (by decide) ?_
  refine lv_icmp_ge (tgt := 215) hx hb d_X_init_199 (by decide) (fun hc => ?_) (fun hc => ?_)
  · have hf := cd_t hc hf
    have ⟨h84, hf⟩ := gd_e hf
    refine W.widen (k := 132) (n := 2016) h84.1 h84.2 ?_
    exact g_vret hx hb hr hlocks hR hS hf d_X_init_215
  have hf := cd_f hc hf
  refine lv_aload_n hx hb d_X_init_202 rfl (lv_at hl 0 rfl) ?_
  have ⟨h85, hf⟩ := gd_e hf
  have ⟨x86, h87, hf⟩ := rr_e hf
  refine g_getR hx hb hts hown hK hR fl_X_66 (fun _ => rfl) h85 h87 d_X_init_203 ?_
  refine lv_iload_n hx hb d_X_init_206 rfl (lv_at hl 1 rfl) ?_
  refine lv_iconst (v := (-1)) hx hb d_X_init_207 (by decide) ?_
  have ⟨h88, hf⟩ := gd_e hf
  have ⟨h89, hf⟩ := gd_e hf
  refine g_iast hx hb hK hR hS h88 h89 d_X_init_208 (fun H locs hR hS => ?_)
  refine g_nW hf hR (fun w90 hf hR => ?_)
  refine g_iinc (lv' := fun x91 => [(1, .int x91), (0, .ref (B + a0))]) hf hx hb d_X_init_209 hl (k := 1) rfl (by decide) (by decide) (fun _ => rfl) (fun x91 ls hf hl => ?_)
  refine lv_goto (tgt := 196) hx hb d_X_init_212 (by decide) ?_
  exact ih196 a0 x91 kc ks w90 _ _ _ hf (lv_sub hl [1, 0] rfl) hR hS
theorem c_X_init_l196 {r : Unit} {wz : gW} (C : gC p s m args meth c "RidCoppers" b_X_init 2 none D cA oc B) (hin : meth.name = "<init>") (a0 : Nat) (a1 : Int32) (kc : Nat) (ks : Nat) (w : gW) {ls : Array Slot} {H : Heap} {locs : List Loc} (hl : lv_has ls 2 [(0, .ref (B + a0)), (1, .int a1)]) (hf : f_X_init_l196 N a0 a1 kc ks w = some (r, wz)) (hR : gRep D cA B w H) (hS : va_S (gA B) s.heap H locs) : W p l e ({ frames := 2, cells := 132, slots := 2016, locals := 81 } : Room) s m args below meth c H locs kc ks (MQ below (gQv D cA B r wz) args s 132 2016 (gA B)) (F0 m 196 ls []) := by
  unfold f_X_init_l196 at hf
  suffices hh : ∀ n : Nat, ∀ (a0 : Nat) (a1 : Int32) (kc : Nat) (ks : Nat) (w : gW) (ls : Array Slot) (H : Heap) (locs : List Loc), itr (fun rec (q : Nat × Int32 × Nat × Nat × gW) => f_X_init_b196 N rec q.1 q.2.1 q.2.2.1 q.2.2.2.1 q.2.2.2.2) n (a0, a1, kc, ks, w) = some (r, wz) → lv_has ls 2 [(0, .ref (B + a0)), (1, .int a1)] → gRep D cA B w H → va_S (gA B) s.heap H locs → W p l e ({ frames := 2, cells := 132, slots := 2016, locals := 81 } : Room) s m args below meth c H locs kc ks (MQ below (gQv D cA B r wz) args s 132 2016 (gA B)) (F0 m 196 ls []) from hh N a0 a1 kc ks w ls H locs hf hl hR hS
  intro n
  induction n with
  | zero => intro a0 a1 kc ks w ls H locs hf; cases hf
  | succ n ihn =>
    intro a0 a1 kc ks w ls H locs hf hl hR hS
    exact c_X_init_b196 (N := N) ihn C hin a0 a1 kc ks w hl ((itr_s _ _ _).symm.trans hf) hR hS
set_option maxRecDepth 20000 in
theorem c_X_init_b169 {r : Unit} {wz : gW} {rec169 : Nat × Int32 × Nat × Nat × gW → Option (Unit × gW)} (ih169 : ∀ (a0 : Nat) (a1 : Int32) (kc : Nat) (ks : Nat) (w : gW) (ls : Array Slot) (H : Heap) (locs : List Loc), rec169 (a0, a1, kc, ks, w) = some (r, wz) → lv_has ls 2 [(0, .ref (B + a0)), (1, .int a1)] → gRep D cA B w H → va_S (gA B) s.heap H locs → W p l e ({ frames := 2, cells := 132, slots := 2016, locals := 81 } : Room) s m args below meth c H locs kc ks (MQ below (gQv D cA B r wz) args s 132 2016 (gA B)) (F0 m 169 ls [])) (C : gC p s m args meth c "RidCoppers" b_X_init 2 none D cA oc B) (hin : meth.name = "<init>") (a0 : Nat) (a1 : Int32) (kc : Nat) (ks : Nat) (w : gW) {ls : Array Slot} {H : Heap} {locs : List Loc} (hl : lv_has ls 2 [(0, .ref (B + a0)), (1, .int a1)]) (hf : f_X_init_b169 N rec169 a0 a1 kc ks w = some (r, wz)) (hR : gRep D cA B w H) (hS : va_S (gA B) s.heap H locs) : W p l e ({ frames := 2, cells := 132, slots := 2016, locals := 81 } : Room) s m args below meth c H locs kc ks (MQ below (gQv D cA B r wz) args s 132 2016 (gA B)) (F0 m 169 ls []) := by
  obtain ⟨hx, hb, hml, hown, hts, hr, hlocks, hK, hBs⟩ := id C
  unfold f_X_init_b169 at hf
  refine lv_iload_n hx hb d_X_init_169 rfl (lv_at hl 1 rfl) ?_
  refine lv_bipush (v := 6) hx hb d_X_init_170 (by decide) ?_
  refine lv_icmp_ge (tgt := 194) hx hb d_X_init_172 (by decide) (fun hc => ?_) (fun hc => ?_)
  · have hf := cd_t hc hf
    refine lv_iconst (v := 0) hx hb d_X_init_194 (by decide) ?_
    refine lv_istore_n (lv' := [(1, .int 0), (0, .ref (B + a0))]) hx hb d_X_init_195 rfl hl (by decide) rfl (fun ls hl => ?_)
    exact c_X_init_l196 C hin a0 0 kc ks w (lv_sub hl [1, 0] rfl) hf hR hS
  have hf := cd_f hc hf
  refine lv_aload_n hx hb d_X_init_175 rfl (lv_at hl 0 rfl) ?_
  have ⟨h92, hf⟩ := gd_e hf
  have ⟨x93, h94, hf⟩ := rr_e hf
  refine g_getR hx hb hts hown hK hR fl_X_44 (fun _ => rfl) h92 h94 d_X_init_176 ?_
  refine lv_iload_n hx hb d_X_init_179 rfl (lv_at hl 1 rfl) ?_
  have ⟨h95, hf⟩ := gd_e hf
  refine g_new (ci := 7) hx hb hts hown hK hR hS rfl i_Tn tk_Tn (by decide +kernel) m_30 m_31 m_2 (h95.1) (h95.2) d_X_init_180 (fun H hR hS => ?_)
  refine g_nA hf (fun p96 hf => ?_)
  refine g_nW hf hR (fun w97 hf hR => ?_)
  refine lv_dup hx hb d_X_init_183 rfl ?_
  have ⟨h101, hf⟩ := gd_e hf
  have ⟨h102, hf⟩ := gd_e hf
  have ⟨x98, w99, h100, hf⟩ := kl_e hf
  refine g_kv (g_rI (As := []) (rest := [.ref (B + p96), .int a1, .ref (B + x93)]) hx hb hml hown hts hK hR hS (c_Tn_init l D cA oc B N p96 w97 h100) I_Tn_init rfl m_32 rfl rfl (Nat.le_of_ble_eq_true rfl) hl.1 ⟨Nat.le_of_ble_eq_true rfl, Nat.le_of_ble_eq_true rfl⟩ ⟨h102.1, h102.2⟩ d_X_init_184) hS (fun H locs hR hS => ?_)
  have ⟨h103, hf⟩ := gd_e hf
  have ⟨h104, hf⟩ := gd_e hf
  have ⟨h105, hf⟩ := gd_e hf
  refine g_aast hx hb hK hR hS (by decide) rfl (g_any hK hR (ci := 7) rfl h105 (Or.inl rfl)) h103 h104 d_X_init_187 (fun H locs hR hS => ?_)
  refine g_nW hf hR (fun w106 hf hR => ?_)
  refine g_iinc (lv' := fun x107 => [(1, .int x107), (0, .ref (B + a0))]) hf hx hb d_X_init_188 hl (k := 1) rfl (by decide) (by decide) (fun _ => rfl) (fun x107 ls hf hl => ?_)
  refine lv_goto (tgt := 169) hx hb d_X_init_191 (by decide) ?_
  exact ih169 a0 x107 (((kc + 1) + 7)) (((ks + 13) + 152)) w106 _ _ _ hf (lv_sub hl [1, 0] rfl) hR hS
theorem c_X_init_l169 {r : Unit} {wz : gW} (C : gC p s m args meth c "RidCoppers" b_X_init 2 none D cA oc B) (hin : meth.name = "<init>") (a0 : Nat) (a1 : Int32) (kc : Nat) (ks : Nat) (w : gW) {ls : Array Slot} {H : Heap} {locs : List Loc} (hl : lv_has ls 2 [(0, .ref (B + a0)), (1, .int a1)]) (hf : f_X_init_l169 N a0 a1 kc ks w = some (r, wz)) (hR : gRep D cA B w H) (hS : va_S (gA B) s.heap H locs) : W p l e ({ frames := 2, cells := 132, slots := 2016, locals := 81 } : Room) s m args below meth c H locs kc ks (MQ below (gQv D cA B r wz) args s 132 2016 (gA B)) (F0 m 169 ls []) := by
  unfold f_X_init_l169 at hf
  suffices hh : ∀ n : Nat, ∀ (a0 : Nat) (a1 : Int32) (kc : Nat) (ks : Nat) (w : gW) (ls : Array Slot) (H : Heap) (locs : List Loc), itr (fun rec (q : Nat × Int32 × Nat × Nat × gW) => f_X_init_b169 N rec q.1 q.2.1 q.2.2.1 q.2.2.2.1 q.2.2.2.2) n (a0, a1, kc, ks, w) = some (r, wz) → lv_has ls 2 [(0, .ref (B + a0)), (1, .int a1)] → gRep D cA B w H → va_S (gA B) s.heap H locs → W p l e ({ frames := 2, cells := 132, slots := 2016, locals := 81 } : Room) s m args below meth c H locs kc ks (MQ below (gQv D cA B r wz) args s 132 2016 (gA B)) (F0 m 169 ls []) from hh N a0 a1 kc ks w ls H locs hf hl hR hS
  intro n
  induction n with
  | zero => intro a0 a1 kc ks w ls H locs hf; cases hf
  | succ n ihn =>
    intro a0 a1 kc ks w ls H locs hf hl hR hS
    exact c_X_init_b169 (N := N) ihn C hin a0 a1 kc ks w hl ((itr_s _ _ _).symm.trans hf) hR hS
set_option maxRecDepth 20000 in
theorem c_X_init_b144 {r : Unit} {wz : gW} {rec144 : Nat × Int32 × Nat × Nat × gW → Option (Unit × gW)} (ih144 : ∀ (a0 : Nat) (a1 : Int32) (kc : Nat) (ks : Nat) (w : gW) (ls : Array Slot) (H : Heap) (locs : List Loc), rec144 (a0, a1, kc, ks, w) = some (r, wz) → lv_has ls 2 [(0, .ref (B + a0)), (1, .int a1)] → gRep D cA B w H → va_S (gA B) s.heap H locs → W p l e ({ frames := 2, cells := 132, slots := 2016, locals := 81 } : Room) s m args below meth c H locs kc ks (MQ below (gQv D cA B r wz) args s 132 2016 (gA B)) (F0 m 144 ls [])) (C : gC p s m args meth c "RidCoppers" b_X_init 2 none D cA oc B) (hin : meth.name = "<init>") (a0 : Nat) (a1 : Int32) (kc : Nat) (ks : Nat) (w : gW) {ls : Array Slot} {H : Heap} {locs : List Loc} (hl : lv_has ls 2 [(0, .ref (B + a0)), (1, .int a1)]) (hf : f_X_init_b144 N rec144 a0 a1 kc ks w = some (r, wz)) (hR : gRep D cA B w H) (hS : va_S (gA B) s.heap H locs) : W p l e ({ frames := 2, cells := 132, slots := 2016, locals := 81 } : Room) s m args below meth c H locs kc ks (MQ below (gQv D cA B r wz) args s 132 2016 (gA B)) (F0 m 144 ls []) := by
  obtain ⟨hx, hb, hml, hown, hts, hr, hlocks, hK, hBs⟩ := id C
  unfold f_X_init_b144 at hf
  refine lv_iload_n hx hb d_X_init_144 rfl (lv_at hl 1 rfl) ?_
  refine lv_bipush (v := 6) hx hb d_X_init_145 (by decide) ?_
  refine lv_icmp_ge (tgt := 167) hx hb d_X_init_147 (by decide) (fun hc => ?_) (fun hc => ?_)
  · have hf := cd_t hc hf
    refine lv_iconst (v := 0) hx hb d_X_init_167 (by decide) ?_
    refine lv_istore_n (lv' := [(1, .int 0), (0, .ref (B + a0))]) hx hb d_X_init_168 rfl hl (by decide) rfl (fun ls hl => ?_)
    exact c_X_init_l169 C hin a0 0 kc ks w (lv_sub hl [1, 0] rfl) hf hR hS
  have hf := cd_f hc hf
  refine lv_aload_n hx hb d_X_init_150 rfl (lv_at hl 0 rfl) ?_
  have ⟨h108, hf⟩ := gd_e hf
  have ⟨x109, h110, hf⟩ := rr_e hf
  refine g_getR hx hb hts hown hK hR fl_X_23 (fun _ => rfl) h108 h110 d_X_init_151 ?_
  have ⟨h111, hf⟩ := gd_e hf
  have ⟨x112, h113, hf⟩ := rr_e hf
  refine g_getR hx hb hts hown hK hR fl_X_78 (fun _ => rfl) h111 h113 d_X_init_154 ?_
  refine lv_iload_n hx hb d_X_init_157 rfl (lv_at hl 1 rfl) ?_
  refine lv_bipush (v := 9) hx hb d_X_init_158 (by decide) ?_
  have ⟨h114, hf⟩ := gd_e hf
  have ⟨h115, hf⟩ := gd_e hf
  refine g_iast hx hb hK hR hS h114 h115 d_X_init_160 (fun H locs hR hS => ?_)
  refine g_nW hf hR (fun w116 hf hR => ?_)
  refine g_iinc (lv' := fun x117 => [(1, .int x117), (0, .ref (B + a0))]) hf hx hb d_X_init_161 hl (k := 1) rfl (by decide) (by decide) (fun _ => rfl) (fun x117 ls hf hl => ?_)
  refine lv_goto (tgt := 144) hx hb d_X_init_164 (by decide) ?_
  exact ih144 a0 x117 kc ks w116 _ _ _ hf (lv_sub hl [1, 0] rfl) hR hS
theorem c_X_init_l144 {r : Unit} {wz : gW} (C : gC p s m args meth c "RidCoppers" b_X_init 2 none D cA oc B) (hin : meth.name = "<init>") (a0 : Nat) (a1 : Int32) (kc : Nat) (ks : Nat) (w : gW) {ls : Array Slot} {H : Heap} {locs : List Loc} (hl : lv_has ls 2 [(0, .ref (B + a0)), (1, .int a1)]) (hf : f_X_init_l144 N a0 a1 kc ks w = some (r, wz)) (hR : gRep D cA B w H) (hS : va_S (gA B) s.heap H locs) : W p l e ({ frames := 2, cells := 132, slots := 2016, locals := 81 } : Room) s m args below meth c H locs kc ks (MQ below (gQv D cA B r wz) args s 132 2016 (gA B)) (F0 m 144 ls []) := by
  unfold f_X_init_l144 at hf
  suffices hh : ∀ n : Nat, ∀ (a0 : Nat) (a1 : Int32) (kc : Nat) (ks : Nat) (w : gW) (ls : Array Slot) (H : Heap) (locs : List Loc), itr (fun rec (q : Nat × Int32 × Nat × Nat × gW) => f_X_init_b144 N rec q.1 q.2.1 q.2.2.1 q.2.2.2.1 q.2.2.2.2) n (a0, a1, kc, ks, w) = some (r, wz) → lv_has ls 2 [(0, .ref (B + a0)), (1, .int a1)] → gRep D cA B w H → va_S (gA B) s.heap H locs → W p l e ({ frames := 2, cells := 132, slots := 2016, locals := 81 } : Room) s m args below meth c H locs kc ks (MQ below (gQv D cA B r wz) args s 132 2016 (gA B)) (F0 m 144 ls []) from hh N a0 a1 kc ks w ls H locs hf hl hR hS
  intro n
  induction n with
  | zero => intro a0 a1 kc ks w ls H locs hf; cases hf
  | succ n ihn =>
    intro a0 a1 kc ks w ls H locs hf hl hR hS
    exact c_X_init_b144 (N := N) ihn C hin a0 a1 kc ks w hl ((itr_s _ _ _).symm.trans hf) hR hS
set_option maxRecDepth 20000 in
theorem c_X_init_b0 {r : Unit} {wz : gW} (C : gC p s m args meth c "RidCoppers" b_X_init 2 none D cA oc B) (hin : meth.name = "<init>") (a0 : Nat) (w : gW) {ls : Array Slot} {H : Heap} {locs : List Loc} (hl : lv_has ls 2 [(0, .ref (B + a0))]) (hf : f_X_init_b0 N a0 w = some (r, wz)) (hR : gRep D cA B w H) (hS : va_S (gA B) s.heap H locs) : W p l e ({ frames := 2, cells := 132, slots := 2016, locals := 81 } : Room) s m args below meth c H locs 0 0 (MQ below (gQv D cA B r wz) args s 132 2016 (gA B)) (F0 m 0 ls []) := by
  obtain ⟨hx, hb, hml, hown, hts, hr, hlocks, hK, hBs⟩ := id C
  unfold f_X_init_b0 at hf
  refine lv_aload_n hx hb d_X_init_0 rfl (lv_at hl 0 rfl) ?_
  refine W.objInit hx hb hown (hts _ m_27) (hts _ m_28) (hts _ m_29) rfl (by rw [hml]; exact hl.1) rfl d_X_init_1 (Nat.le_of_ble_eq_true rfl) (Nat.le_of_ble_eq_true rfl) ?_
  refine W.eq (g2 := F0 m 4 ls []) rfl ?_
  refine lv_aload_n hx hb d_X_init_4 rfl (lv_at hl 0 rfl) ?_
  refine g_new (ci := 7) hx hb hts hown hK hR hS rfl i_Tn tk_Tn (by decide +kernel) m_30 m_31 m_2 (Nat.le_of_ble_eq_true rfl) (Nat.le_of_ble_eq_true rfl) d_X_init_5 (fun H hR hS => ?_)
  refine g_nA hf (fun p1 hf => ?_)
  refine g_nW hf hR (fun w2 hf hR => ?_)
  refine lv_dup hx hb d_X_init_8 rfl ?_
  have ⟨h6, hf⟩ := gd_e hf
  have ⟨x3, w4, h5, hf⟩ := kl_e hf
  refine g_kv (g_rI (As := []) (rest := [.ref (B + p1), .ref (B + a0)]) hx hb hml hown hts hK hR hS (c_Tn_init l D cA oc B N p1 w2 h5) I_Tn_init rfl m_32 rfl rfl (Nat.le_of_ble_eq_true rfl) hl.1 ⟨Nat.le_of_ble_eq_true rfl, Nat.le_of_ble_eq_true rfl⟩ ⟨Nat.le_of_ble_eq_true rfl, Nat.le_of_ble_eq_true rfl⟩ d_X_init_9) hS (fun H locs hR hS => ?_)
  have ⟨h7, hf⟩ := gd_e hf
  refine g_putFR hx hb hts hown hK hR hS pf_X_12 hin (fun _ => rfl) (fun _ => rfl) (fun _ => rfl) h7 d_X_init_12 (fun H locs hR hS => ?_)
  refine g_nW hf hR (fun w8 hf hR => ?_)
  refine lv_aload_n hx hb d_X_init_15 rfl (lv_at hl 0 rfl) ?_
  refine g_new (ci := 9) hx hb hts hown hK hR hS rfl i_Wo tk_Wo (by decide +kernel) m_82 m_83 m_3 (Nat.le_of_ble_eq_true rfl) (Nat.le_of_ble_eq_true rfl) d_X_init_16 (fun H hR hS => ?_)
  refine g_nA hf (fun p9 hf => ?_)
  refine g_nW hf hR (fun w10 hf hR => ?_)
  refine lv_dup hx hb d_X_init_19 rfl ?_
  refine lv_aload_n hx hb d_X_init_20 rfl (lv_at hl 0 rfl) ?_
  have ⟨h11, hf⟩ := gd_e hf
  have ⟨x12, h13, hf⟩ := rr_e hf
  refine g_getR hx hb hts hown hK hR fl_X_12 (fun _ => rfl) h11 h13 d_X_init_21 ?_
  have ⟨h17, hf⟩ := gd_e hf
  have ⟨x14, w15, h16, hf⟩ := kl_e hf
  refine g_kv (g_rI (As := [.ref (B + x12)]) (rest := [.ref (B + p9), .ref (B + a0)]) hx hb hml hown hts hK hR hS (c_Wo_init l D cA oc B N p9 x12 w10 h16) I_Wo_init rfl m_84 rfl rfl (Nat.le_of_ble_eq_true rfl) hl.1 ⟨Nat.le_of_ble_eq_true rfl, Nat.le_of_ble_eq_true rfl⟩ ⟨Nat.le_of_ble_eq_true rfl, Nat.le_of_ble_eq_true rfl⟩ d_X_init_24) hS (fun H locs hR hS => ?_)
  have ⟨h18, hf⟩ := gd_e hf
  refine g_putFR hx hb hts hown hK hR hS pf_X_23 hin (fun _ => rfl) (fun _ => rfl) (fun _ => rfl) h18 d_X_init_27 (fun H locs hR hS => ?_)
  refine g_nW hf hR (fun w19 hf hR => ?_)
  refine lv_aload_n hx hb d_X_init_30 rfl (lv_at hl 0 rfl) ?_
  refine g_new (ci := 9) hx hb hts hown hK hR hS rfl i_Wo tk_Wo (by decide +kernel) m_82 m_83 m_3 (Nat.le_of_ble_eq_true rfl) (Nat.le_of_ble_eq_true rfl) d_X_init_31 (fun H hR hS => ?_)
  refine g_nA hf (fun p20 hf => ?_)
  refine g_nW hf hR (fun w21 hf hR => ?_)
  refine lv_dup hx hb d_X_init_34 rfl ?_
  refine lv_aload_n hx hb d_X_init_35 rfl (lv_at hl 0 rfl) ?_
  have ⟨h22, hf⟩ := gd_e hf
  have ⟨x23, h24, hf⟩ := rr_e hf
  refine g_getR hx hb hts hown hK hR fl_X_12 (fun _ => rfl) h22 h24 d_X_init_36 ?_
  have ⟨h28, hf⟩ := gd_e hf
  have ⟨x25, w26, h27, hf⟩ := kl_e hf
  refine g_kv (g_rI (As := [.ref (B + x23)]) (rest := [.ref (B + p20), .ref (B + a0)]) hx hb hml hown hts hK hR hS (c_Wo_init l D cA oc B N p20 x23 w21 h27) I_Wo_init rfl m_84 rfl rfl (Nat.le_of_ble_eq_true rfl) hl.1 ⟨Nat.le_of_ble_eq_true rfl, Nat.le_of_ble_eq_true rfl⟩ ⟨Nat.le_of_ble_eq_true rfl, Nat.le_of_ble_eq_true rfl⟩ d_X_init_39) hS (fun H locs hR hS => ?_)
  have ⟨h29, hf⟩ := gd_e hf
  refine g_putFR hx hb hts hown hK hR hS pf_X_27 hin (fun _ => rfl) (fun _ => rfl) (fun _ => rfl) h29 d_X_init_42 (fun H locs hR hS => ?_)
  refine g_nW hf hR (fun w30 hf hR => ?_)
  refine lv_aload_n hx hb d_X_init_45 rfl (lv_at hl 0 rfl) ?_
  refine g_new (ci := 9) hx hb hts hown hK hR hS rfl i_Wo tk_Wo (by decide +kernel) m_82 m_83 m_3 (Nat.le_of_ble_eq_true rfl) (Nat.le_of_ble_eq_true rfl) d_X_init_46 (fun H hR hS => ?_)
  refine g_nA hf (fun p31 hf => ?_)
  refine g_nW hf hR (fun w32 hf hR => ?_)
  refine lv_dup hx hb d_X_init_49 rfl ?_
  refine lv_aload_n hx hb d_X_init_50 rfl (lv_at hl 0 rfl) ?_
  have ⟨h33, hf⟩ := gd_e hf
  have ⟨x34, h35, hf⟩ := rr_e hf
  refine g_getR hx hb hts hown hK hR fl_X_12 (fun _ => rfl) h33 h35 d_X_init_51 ?_
  have ⟨h39, hf⟩ := gd_e hf
  have ⟨x36, w37, h38, hf⟩ := kl_e hf
  refine g_kv (g_rI (As := [.ref (B + x34)]) (rest := [.ref (B + p31), .ref (B + a0)]) hx hb hml hown hts hK hR hS (c_Wo_init l D cA oc B N p31 x34 w32 h38) I_Wo_init rfl m_84 rfl rfl (Nat.le_of_ble_eq_true rfl) hl.1 ⟨Nat.le_of_ble_eq_true rfl, Nat.le_of_ble_eq_true rfl⟩ ⟨Nat.le_of_ble_eq_true rfl, Nat.le_of_ble_eq_true rfl⟩ d_X_init_54) hS (fun H locs hR hS => ?_)
  have ⟨h40, hf⟩ := gd_e hf
  refine g_putFR hx hb hts hown hK hR hS pf_X_30 hin (fun _ => rfl) (fun _ => rfl) (fun _ => rfl) h40 d_X_init_57 (fun H locs hR hS => ?_)
  refine g_nW hf hR (fun w41 hf hR => ?_)
  refine lv_aload_n hx hb d_X_init_60 rfl (lv_at hl 0 rfl) ?_
  refine lv_iconst (v := 0) hx hb d_X_init_61 (by decide) ?_
  have ⟨h42, hf⟩ := gd_e hf
  refine g_putI hx hb hts hown hK hR hS pf_X_33 (fun _ => rfl) rfl rfl h42 d_X_init_62 (fun H locs hR hS => ?_)
  refine g_nW hf hR (fun w43 hf hR => ?_)
  refine lv_aload_n hx hb d_X_init_65 rfl (lv_at hl 0 rfl) ?_
  refine g_new (ci := 10) hx hb hts hown hK hR hS rfl i_Pm tk_Pm (by decide +kernel) m_161 m_162 m_4 (Nat.le_of_ble_eq_true rfl) (Nat.le_of_ble_eq_true rfl) d_X_init_66 (fun H hR hS => ?_)
  refine g_nA hf (fun p44 hf => ?_)
  refine g_nW hf hR (fun w45 hf hR => ?_)
  refine lv_dup hx hb d_X_init_69 rfl ?_
  have ⟨h49, hf⟩ := gd_e hf
  have ⟨x46, w47, h48, hf⟩ := kl_e hf
  refine g_kv (g_rIN (host := "RidCoppers") (As := []) (rest := [.ref (B + p44), .ref (B + a0)]) hx hb hml hown hts hK hR hS (c_Pm_init l D cA oc B N p44 w45 h48) I_Pm_init rfl hK.2.2.2.1.2.2.2.1 rfl rfl (Nat.le_of_ble_eq_true rfl) hl.1 ⟨Nat.le_of_ble_eq_true rfl, Nat.le_of_ble_eq_true rfl⟩ ⟨Nat.le_of_ble_eq_true rfl, Nat.le_of_ble_eq_true rfl⟩ d_X_init_70) hS (fun H locs hR hS => ?_)
  have ⟨h50, hf⟩ := gd_e hf
  refine g_putFR hx hb hts hown hK hR hS pf_X_40 hin (fun _ => rfl) (fun _ => rfl) (fun _ => rfl) h50 d_X_init_73 (fun H locs hR hS => ?_)
  refine g_nW hf hR (fun w51 hf hR => ?_)
  refine lv_aload_n hx hb d_X_init_76 rfl (lv_at hl 0 rfl) ?_
  refine lv_bipush (v := 6) hx hb d_X_init_77 (by decide) ?_
  refine g_anew (kd := 55) (N := 6) hx hb hts hown hK hR hS (by decide) rfl m_30 hK.2.2.2.2.1.2.1 (by decide) rfl (Nat.le_of_ble_eq_true rfl) (Nat.le_of_ble_eq_true rfl) (Nat.le_of_ble_eq_true rfl) d_X_init_79 (fun H hR hS => ?_)
  refine g_nA hf (fun p52 hf => ?_)
  refine g_nW hf hR (fun w53 hf hR => ?_)
  have ⟨h54, hf⟩ := gd_e hf
  refine g_putFR hx hb hts hown hK hR hS pf_X_44 hin (fun _ => rfl) (fun _ => rfl) (fun _ => rfl) h54 d_X_init_82 (fun H locs hR hS => ?_)
  refine g_nW hf hR (fun w55 hf hR => ?_)
  refine lv_aload_n hx hb d_X_init_85 rfl (lv_at hl 0 rfl) ?_
  refine lv_iconst (v := 0) hx hb d_X_init_86 (by decide) ?_
  have ⟨h56, hf⟩ := gd_e hf
  refine g_putI hx hb hts hown hK hR hS pf_X_48 (fun _ => rfl) rfl rfl h56 d_X_init_87 (fun H locs hR hS => ?_)
  refine g_nW hf hR (fun w57 hf hR => ?_)
  refine lv_aload_n hx hb d_X_init_90 rfl (lv_at hl 0 rfl) ?_
  refine lv_bipush (v := 100) hx hb d_X_init_91 (by decide) ?_
  refine g_newa (kd := 51) (N := 100) hx hb hts hK hR hS (by decide) rfl m_227 (by decide) rfl (Nat.le_of_ble_eq_true rfl) (Nat.le_of_ble_eq_true rfl) (Nat.le_of_ble_eq_true rfl) d_X_init_93 (fun H hR hS => ?_)
  refine g_nA hf (fun p58 hf => ?_)
  refine g_nW hf hR (fun w59 hf hR => ?_)
  have ⟨h60, hf⟩ := gd_e hf
  refine g_putFR hx hb hts hown hK hR hS pf_X_52 hin (fun _ => rfl) (fun _ => rfl) (fun _ => rfl) h60 d_X_init_95 (fun H locs hR hS => ?_)
  refine g_nW hf hR (fun w61 hf hR => ?_)
  refine lv_aload_n hx hb d_X_init_98 rfl (lv_at hl 0 rfl) ?_
  refine lv_iconst (v := 0) hx hb d_X_init_99 (by decide) ?_
  have ⟨h62, hf⟩ := gd_e hf
  refine g_putI hx hb hts hown hK hR hS pf_X_56 (fun _ => rfl) rfl rfl h62 d_X_init_100 (fun H locs hR hS => ?_)
  refine g_nW hf hR (fun w63 hf hR => ?_)
  refine lv_aload_n hx hb d_X_init_103 rfl (lv_at hl 0 rfl) ?_
  refine g_new (ci := 8) hx hb hts hown hK hR hS rfl i_Tr tk_Tr (by decide +kernel) m_212 m_213 m_5 (Nat.le_of_ble_eq_true rfl) (Nat.le_of_ble_eq_true rfl) d_X_init_104 (fun H hR hS => ?_)
  refine g_nA hf (fun p64 hf => ?_)
  refine g_nW hf hR (fun w65 hf hR => ?_)
  refine lv_dup hx hb d_X_init_107 rfl ?_
  have ⟨h69, hf⟩ := gd_e hf
  have ⟨x66, w67, h68, hf⟩ := kl_e hf
  refine g_kv (g_rIN (host := "RidCoppers") (As := []) (rest := [.ref (B + p64), .ref (B + a0)]) hx hb hml hown hts hK hR hS (c_Tr_init l D cA oc B N p64 w65 h68) I_Tr_init rfl hK.2.2.2.1.2.2.2.2 rfl rfl (Nat.le_of_ble_eq_true rfl) hl.1 ⟨Nat.le_of_ble_eq_true rfl, Nat.le_of_ble_eq_true rfl⟩ ⟨Nat.le_of_ble_eq_true rfl, Nat.le_of_ble_eq_true rfl⟩ d_X_init_108) hS (fun H locs hR hS => ?_)
  have ⟨h70, hf⟩ := gd_e hf
  refine g_putFR hx hb hts hown hK hR hS pf_X_62 hin (fun _ => rfl) (fun _ => rfl) (fun _ => rfl) h70 d_X_init_111 (fun H locs hR hS => ?_)
  refine g_nW hf hR (fun w71 hf hR => ?_)
  refine lv_aload_n hx hb d_X_init_114 rfl (lv_at hl 0 rfl) ?_
  refine lv_bipush (v := 6) hx hb d_X_init_115 (by decide) ?_
  refine g_newa (kd := 50) (N := 6) hx hb hts hK hR hS (by decide) rfl m_81 (by decide) rfl (Nat.le_of_ble_eq_true rfl) (Nat.le_of_ble_eq_true rfl) (Nat.le_of_ble_eq_true rfl) d_X_init_117 (fun H hR hS => ?_)
  refine g_nA hf (fun p72 hf => ?_)
  refine g_nW hf hR (fun w73 hf hR => ?_)
  have ⟨h74, hf⟩ := gd_e hf
  refine g_putFR hx hb hts hown hK hR hS pf_X_66 hin (fun _ => rfl) (fun _ => rfl) (fun _ => rfl) h74 d_X_init_119 (fun H locs hR hS => ?_)
  refine g_nW hf hR (fun w75 hf hR => ?_)
  refine lv_aload_n hx hb d_X_init_122 rfl (lv_at hl 0 rfl) ?_
  refine lv_bipush (v := 6) hx hb d_X_init_123 (by decide) ?_
  refine g_newa (kd := 50) (N := 6) hx hb hts hK hR hS (by decide) rfl m_81 (by decide) rfl (Nat.le_of_ble_eq_true rfl) (Nat.le_of_ble_eq_true rfl) (Nat.le_of_ble_eq_true rfl) d_X_init_125 (fun H hR hS => ?_)
  refine g_nA hf (fun p76 hf => ?_)
  refine g_nW hf hR (fun w77 hf hR => ?_)
  have ⟨h78, hf⟩ := gd_e hf
  refine g_putFR hx hb hts hown hK hR hS pf_X_70 hin (fun _ => rfl) (fun _ => rfl) (fun _ => rfl) h78 d_X_init_127 (fun H locs hR hS => ?_)
  refine g_nW hf hR (fun w79 hf hR => ?_)
  refine lv_aload_n hx hb d_X_init_130 rfl (lv_at hl 0 rfl) ?_
  refine lv_bipush (v := 6) hx hb d_X_init_131 (by decide) ?_
  refine lv_bipush (v := 60) hx hb d_X_init_133 (by decide) ?_
  refine g_mna (ko := 57) (kd := 52) (N := 6) (K := 60) (ty := .long) hx hb hts hown hK hR hS (by decide) (by decide) rfl rfl ⟨fun h => (by cases h), fun h => (by cases h)⟩ (show Cond.classLink "RidCoppers" 73 ("[" ++ (FieldType.array .long).toString) ∈ lw_good from (show ("[" ++ (FieldType.array .long).toString) = "[[J" from by decide +kernel) ▸ m_228) hK.2.2.2.2.1.2.2.2 m_273 (by decide) (by decide) rfl rfl (Nat.le_of_ble_eq_true rfl) (Nat.le_of_ble_eq_true rfl) (Nat.le_of_ble_eq_true rfl) rfl rfl (Nat.le_of_ble_eq_true rfl) (Nat.le_of_ble_eq_true rfl) d_X_init_135 (fun H hR hS => ?_)
  refine g_nA hf (fun p80 hf => ?_)
  refine g_nW hf hR (fun w81 hf hR => ?_)
  have ⟨h82, hf⟩ := gd_e hf
  refine g_putFR hx hb hts hown hK hR hS pf_X_75 hin (fun _ => rfl) (fun _ => rfl) (fun _ => rfl) h82 d_X_init_139 (fun H locs hR hS => ?_)
  refine g_nW hf hR (fun w83 hf hR => ?_)
  refine lv_iconst (v := 0) hx hb d_X_init_142 (by decide) ?_
  refine lv_istore_n (lv' := [(1, .int 0), (0, .ref (B + a0))]) hx hb d_X_init_143 rfl hl (by decide) rfl (fun ls hl => ?_)
  exact c_X_init_l144 C hin a0 0 84 1026 w83 (lv_sub hl [1, 0] rfl) hf hR hS
theorem c_X_init (l : Launch) (D : va_G) (cA : Nat → ClassId) (oc : gO) (B N : Nat) (a0 : Nat) (w : gW) {wz : gW} {r : Unit} (hf : f_X_init N a0 w = some (r, wz)) : Met l y_X_init (Cond.code y_X_init b_X_init 2 none :: lw_good) ({ frames := 2, cells := 132, slots := 2016, locals := 81 } : Room) (gPre D cA oc B [.ref (B + a0)] w) (gQv D cA B r wz) 132 2016 (gA B) := by
  refine Met.ofW (cc := b_X_init) (maxL := 2) (ret := none) (by decide +kernel) rfl ?_
  intro p e s m args below meth c s₁ Bd hml hv
  obtain ⟨hargs, C, hR⟩ := gC.enter (l := l) rfl Bd hml hv
  have hin : meth.name = "<init>" := (name_of_methodNamed Bd.named Bd.method).1
  subst hargs
  have hl := lv_entry ([.ref (B + a0)]) (n := 2) (Nat.le_of_ble_eq_true rfl)
  rw [lg_entry_eq]
  generalize (lg_sl ([.ref (B + a0)]) ++ List.replicate (2 - (lg_sl ([.ref (B + a0)])).length) Slot.unset).toArray = ls at hl ⊢
  have hl : lv_has ls 2 [(0, .ref (B + a0))] := hl
  exact c_X_init_b0 C hin a0 w (lv_sub hl [0] rfl) hf hR va_S.rf
theorem d_X_newPayer_0 : decode b_X_newPayer 0 = .ok (.iload_n 0, 1) := by decide +kernel
theorem d_X_newPayer_1 : decode b_X_newPayer 1 = .ok (.tableswitch 102 1 6 #[39, 50, 61, 72, 82, 92], 39) := by decide +kernel
theorem d_X_newPayer_40 : decode b_X_newPayer 40 = .ok (.new 279, 3) := by decide +kernel
theorem d_X_newPayer_43 : decode b_X_newPayer 43 = .ok (.dup, 1) := by decide +kernel
theorem d_X_newPayer_44 : decode b_X_newPayer 44 = .ok (.iconst 1, 1) := by decide +kernel
theorem d_X_newPayer_45 : decode b_X_newPayer 45 = .ok (.iload_n 1, 1) := by decide +kernel
theorem d_X_newPayer_46 : decode b_X_newPayer 46 = .ok (.iload_n 2, 1) := by decide +kernel
theorem d_X_newPayer_47 : decode b_X_newPayer 47 = .ok (.invokespecial 281, 3) := by decide +kernel
theorem d_X_newPayer_50 : decode b_X_newPayer 50 = .ok (.areturn, 1) := by decide +kernel
theorem d_X_newPayer_51 : decode b_X_newPayer 51 = .ok (.new 284, 3) := by decide +kernel
theorem d_X_newPayer_54 : decode b_X_newPayer 54 = .ok (.dup, 1) := by decide +kernel
theorem d_X_newPayer_55 : decode b_X_newPayer 55 = .ok (.iconst 2, 1) := by decide +kernel
theorem d_X_newPayer_56 : decode b_X_newPayer 56 = .ok (.iload_n 1, 1) := by decide +kernel
theorem d_X_newPayer_57 : decode b_X_newPayer 57 = .ok (.iload_n 2, 1) := by decide +kernel
theorem d_X_newPayer_58 : decode b_X_newPayer 58 = .ok (.invokespecial 286, 3) := by decide +kernel
theorem d_X_newPayer_61 : decode b_X_newPayer 61 = .ok (.areturn, 1) := by decide +kernel
theorem d_X_newPayer_62 : decode b_X_newPayer 62 = .ok (.new 287, 3) := by decide +kernel
theorem d_X_newPayer_65 : decode b_X_newPayer 65 = .ok (.dup, 1) := by decide +kernel
theorem d_X_newPayer_66 : decode b_X_newPayer 66 = .ok (.iconst 3, 1) := by decide +kernel
theorem d_X_newPayer_67 : decode b_X_newPayer 67 = .ok (.iload_n 1, 1) := by decide +kernel
theorem d_X_newPayer_68 : decode b_X_newPayer 68 = .ok (.iload_n 2, 1) := by decide +kernel
theorem d_X_newPayer_69 : decode b_X_newPayer 69 = .ok (.invokespecial 289, 3) := by decide +kernel
theorem d_X_newPayer_72 : decode b_X_newPayer 72 = .ok (.areturn, 1) := by decide +kernel
theorem d_X_newPayer_73 : decode b_X_newPayer 73 = .ok (.new 290, 3) := by decide +kernel
theorem d_X_newPayer_76 : decode b_X_newPayer 76 = .ok (.dup, 1) := by decide +kernel
theorem d_X_newPayer_77 : decode b_X_newPayer 77 = .ok (.iload_n 1, 1) := by decide +kernel
theorem d_X_newPayer_78 : decode b_X_newPayer 78 = .ok (.iload_n 2, 1) := by decide +kernel
theorem d_X_newPayer_79 : decode b_X_newPayer 79 = .ok (.invokespecial 292, 3) := by decide +kernel
theorem d_X_newPayer_82 : decode b_X_newPayer 82 = .ok (.areturn, 1) := by decide +kernel
theorem d_X_newPayer_83 : decode b_X_newPayer 83 = .ok (.new 295, 3) := by decide +kernel
theorem d_X_newPayer_86 : decode b_X_newPayer 86 = .ok (.dup, 1) := by decide +kernel
theorem d_X_newPayer_87 : decode b_X_newPayer 87 = .ok (.iload_n 1, 1) := by decide +kernel
theorem d_X_newPayer_88 : decode b_X_newPayer 88 = .ok (.iload_n 2, 1) := by decide +kernel
theorem d_X_newPayer_89 : decode b_X_newPayer 89 = .ok (.invokespecial 297, 3) := by decide +kernel
theorem d_X_newPayer_92 : decode b_X_newPayer 92 = .ok (.areturn, 1) := by decide +kernel
theorem d_X_newPayer_93 : decode b_X_newPayer 93 = .ok (.new 298, 3) := by decide +kernel
theorem d_X_newPayer_96 : decode b_X_newPayer 96 = .ok (.dup, 1) := by decide +kernel
theorem d_X_newPayer_97 : decode b_X_newPayer 97 = .ok (.iload_n 1, 1) := by decide +kernel
theorem d_X_newPayer_98 : decode b_X_newPayer 98 = .ok (.iload_n 2, 1) := by decide +kernel
theorem d_X_newPayer_99 : decode b_X_newPayer 99 = .ok (.invokespecial 300, 3) := by decide +kernel
theorem d_X_newPayer_102 : decode b_X_newPayer 102 = .ok (.areturn, 1) := by decide +kernel
theorem d_X_newPayer_103 : decode b_X_newPayer 103 = .ok (.new 112, 3) := by decide +kernel
theorem d_X_newPayer_106 : decode b_X_newPayer 106 = .ok (.dup, 1) := by decide +kernel
theorem d_X_newPayer_107 : decode b_X_newPayer 107 = .ok (.iconst 0, 1) := by decide +kernel
theorem d_X_newPayer_108 : decode b_X_newPayer 108 = .ok (.iload_n 1, 1) := by decide +kernel
theorem d_X_newPayer_109 : decode b_X_newPayer 109 = .ok (.iload_n 2, 1) := by decide +kernel
theorem d_X_newPayer_110 : decode b_X_newPayer 110 = .ok (.invokespecial 301, 3) := by decide +kernel
theorem d_X_newPayer_113 : decode b_X_newPayer 113 = .ok (.areturn, 1) := by decide +kernel
set_option maxRecDepth 20000 in
theorem c_X_newPayer_b0 {r : Option Nat} {wz : gW} (C : gC p s m args meth c "RidCoppers" b_X_newPayer 3 (some (FieldType.object "RidCoppers$Payer")) D cA oc B) (a0 : Int32) (a1 : Int32) (a2 : Int32) (w : gW) {ls : Array Slot} {H : Heap} {locs : List Loc} (hl : lv_has ls 3 [(0, .int a0), (1, .int a1), (2, .int a2)]) (hf : f_X_newPayer_b0 N a0 a1 a2 w = some (r, wz)) (hR : gRep D cA B w H) (hS : va_S (gA B) s.heap H locs) : W p l e ({ frames := 4, cells := 1, slots := 3, locals := 128 } : Room) s m args below meth c H locs 0 0 (MQ below (gQr D cA B r wz) args s 1 3 (gA B)) (F0 m 0 ls []) := by
  obtain ⟨hx, hb, hml, hown, hts, hr, hlocks, hK, hBs⟩ := id C
  unfold f_X_newPayer_b0 at hf
  refine lv_iload_n hx hb d_X_newPayer_0 rfl (lv_at hl 0 rfl) ?_
  by_cases hc1 : a0 = 1
  · refine lv_tableIn (off := 39) (tgt := 40) hx hb d_X_newPayer_1 (by rw [hc1]; decide) (by rw [hc1]; decide) (by rw [hc1]; rfl) (by decide) ?_
    have hf := cd_t hc1 hf
    refine g_new (ci := 1) hx hb hts hown hK hR hS rfl i_E tk_P (by decide +kernel) m_281 m_282 m_8 (Nat.le_of_ble_eq_true rfl) (Nat.le_of_ble_eq_true rfl) d_X_newPayer_40 (fun H hR hS => ?_)
    refine g_nA hf (fun p2 hf => ?_)
    refine g_nW hf hR (fun w3 hf hR => ?_)
    refine lv_dup hx hb d_X_newPayer_43 rfl ?_
    refine lv_iconst (v := 1) hx hb d_X_newPayer_44 (by decide) ?_
    refine lv_iload_n hx hb d_X_newPayer_45 rfl (lv_at hl 1 rfl) ?_
    refine lv_iload_n hx hb d_X_newPayer_46 rfl (lv_at hl 2 rfl) ?_
    have ⟨h7, hf⟩ := gd_e hf
    have ⟨x4, w5, h6, hf⟩ := kl_e hf
    refine g_kv (g_rI (As := [.int 1, .int a1, .int a2]) (rest := [.ref (B + p2)]) hx hb hml hown hts hK hR hS (c_E_init l D cA oc B N p2 1 a1 a2 w3 h6) I_E_init rfl m_283 rfl rfl (Nat.le_of_ble_eq_true rfl) hl.1 ⟨Nat.le_of_ble_eq_true rfl, Nat.le_of_ble_eq_true rfl⟩ ⟨Nat.le_of_ble_eq_true rfl, Nat.le_of_ble_eq_true rfl⟩ d_X_newPayer_47) hS (fun H locs hR hS => ?_)
    refine W.widen (k := 1) (n := 3) (Nat.le_of_ble_eq_true rfl) (Nat.le_of_ble_eq_true rfl) ?_
    exact g_aret hx hb hr hlocks hR hS hf d_X_newPayer_50
  have hf := cd_f hc1 hf
  by_cases hc8 : a0 = 2
  · refine lv_tableIn (off := 50) (tgt := 51) hx hb d_X_newPayer_1 (by rw [hc8]; decide) (by rw [hc8]; decide) (by rw [hc8]; rfl) (by decide) ?_
    have hf := cd_t hc8 hf
    refine g_new (ci := 2) hx hb hts hown hK hR hS rfl i_Ro tk_P (by decide +kernel) m_313 m_314 m_9 (Nat.le_of_ble_eq_true rfl) (Nat.le_of_ble_eq_true rfl) d_X_newPayer_51 (fun H hR hS => ?_)
    refine g_nA hf (fun p9 hf => ?_)
    refine g_nW hf hR (fun w10 hf hR => ?_)
    refine lv_dup hx hb d_X_newPayer_54 rfl ?_
    refine lv_iconst (v := 2) hx hb d_X_newPayer_55 (by decide) ?_
    refine lv_iload_n hx hb d_X_newPayer_56 rfl (lv_at hl 1 rfl) ?_
    refine lv_iload_n hx hb d_X_newPayer_57 rfl (lv_at hl 2 rfl) ?_
    have ⟨h14, hf⟩ := gd_e hf
    have ⟨x11, w12, h13, hf⟩ := kl_e hf
    refine g_kv (g_rI (As := [.int 2, .int a1, .int a2]) (rest := [.ref (B + p9)]) hx hb hml hown hts hK hR hS (c_Ro_init l D cA oc B N p9 2 a1 a2 w10 h13) I_Ro_init rfl m_315 rfl rfl (Nat.le_of_ble_eq_true rfl) hl.1 ⟨Nat.le_of_ble_eq_true rfl, Nat.le_of_ble_eq_true rfl⟩ ⟨Nat.le_of_ble_eq_true rfl, Nat.le_of_ble_eq_true rfl⟩ d_X_newPayer_58) hS (fun H locs hR hS => ?_)
    refine W.widen (k := 1) (n := 3) (Nat.le_of_ble_eq_true rfl) (Nat.le_of_ble_eq_true rfl) ?_
    exact g_aret hx hb hr hlocks hR hS hf d_X_newPayer_61
  have hf := cd_f hc8 hf
  by_cases hc15 : a0 = 3
  · refine lv_tableIn (off := 61) (tgt := 62) hx hb d_X_newPayer_1 (by rw [hc15]; decide) (by rw [hc15]; decide) (by rw [hc15]; rfl) (by decide) ?_
    have hf := cd_t hc15 hf
    refine g_new (ci := 3) hx hb hts hown hK hR hS rfl i_Ke tk_P (by decide +kernel) m_323 m_324 m_10 (Nat.le_of_ble_eq_true rfl) (Nat.le_of_ble_eq_true rfl) d_X_newPayer_62 (fun H hR hS => ?_)
    refine g_nA hf (fun p16 hf => ?_)
    refine g_nW hf hR (fun w17 hf hR => ?_)
    refine lv_dup hx hb d_X_newPayer_65 rfl ?_
    refine lv_iconst (v := 3) hx hb d_X_newPayer_66 (by decide) ?_
    refine lv_iload_n hx hb d_X_newPayer_67 rfl (lv_at hl 1 rfl) ?_
    refine lv_iload_n hx hb d_X_newPayer_68 rfl (lv_at hl 2 rfl) ?_
    have ⟨h21, hf⟩ := gd_e hf
    have ⟨x18, w19, h20, hf⟩ := kl_e hf
    refine g_kv (g_rI (As := [.int 3, .int a1, .int a2]) (rest := [.ref (B + p16)]) hx hb hml hown hts hK hR hS (c_Ke_init l D cA oc B N p16 3 a1 a2 w17 h20) I_Ke_init rfl m_325 rfl rfl (Nat.le_of_ble_eq_true rfl) hl.1 ⟨Nat.le_of_ble_eq_true rfl, Nat.le_of_ble_eq_true rfl⟩ ⟨Nat.le_of_ble_eq_true rfl, Nat.le_of_ble_eq_true rfl⟩ d_X_newPayer_69) hS (fun H locs hR hS => ?_)
    refine W.widen (k := 1) (n := 3) (Nat.le_of_ble_eq_true rfl) (Nat.le_of_ble_eq_true rfl) ?_
    exact g_aret hx hb hr hlocks hR hS hf d_X_newPayer_72
  have hf := cd_f hc15 hf
  by_cases hc22 : a0 = 4
  · refine lv_tableIn (off := 72) (tgt := 73) hx hb d_X_newPayer_1 (by rw [hc22]; decide) (by rw [hc22]; decide) (by rw [hc22]; rfl) (by decide) ?_
    have hf := cd_t hc22 hf
    refine g_new (ci := 4) hx hb hts hown hK hR hS rfl i_Li tk_P (by decide +kernel) m_333 m_334 m_11 (Nat.le_of_ble_eq_true rfl) (Nat.le_of_ble_eq_true rfl) d_X_newPayer_73 (fun H hR hS => ?_)
    refine g_nA hf (fun p23 hf => ?_)
    refine g_nW hf hR (fun w24 hf hR => ?_)
    refine lv_dup hx hb d_X_newPayer_76 rfl ?_
    refine lv_iload_n hx hb d_X_newPayer_77 rfl (lv_at hl 1 rfl) ?_
    refine lv_iload_n hx hb d_X_newPayer_78 rfl (lv_at hl 2 rfl) ?_
    have ⟨h28, hf⟩ := gd_e hf
    have ⟨x25, w26, h27, hf⟩ := kl_e hf
    refine g_kv (g_rI (As := [.int a1, .int a2]) (rest := [.ref (B + p23)]) hx hb hml hown hts hK hR hS (c_Li_init l D cA oc B N p23 a1 a2 w24 h27) I_Li_init rfl m_335 rfl rfl (Nat.le_of_ble_eq_true rfl) hl.1 ⟨Nat.le_of_ble_eq_true rfl, Nat.le_of_ble_eq_true rfl⟩ ⟨Nat.le_of_ble_eq_true rfl, Nat.le_of_ble_eq_true rfl⟩ d_X_newPayer_79) hS (fun H locs hR hS => ?_)
    refine W.widen (k := 1) (n := 3) (Nat.le_of_ble_eq_true rfl) (Nat.le_of_ble_eq_true rfl) ?_
    exact g_aret hx hb hr hlocks hR hS hf d_X_newPayer_82
  have hf := cd_f hc22 hf
  by_cases hc29 : a0 = 5
  · refine lv_tableIn (off := 82) (tgt := 83) hx hb d_X_newPayer_1 (by rw [hc29]; decide) (by rw [hc29]; decide) (by rw [hc29]; rfl) (by decide) ?_
    have hf := cd_t hc29 hf
    refine g_new (ci := 5) hx hb hts hown hK hR hS rfl i_Wi tk_P (by decide +kernel) m_343 m_344 m_12 (Nat.le_of_ble_eq_true rfl) (Nat.le_of_ble_eq_true rfl) d_X_newPayer_83 (fun H hR hS => ?_)
    refine g_nA hf (fun p30 hf => ?_)
    refine g_nW hf hR (fun w31 hf hR => ?_)
    refine lv_dup hx hb d_X_newPayer_86 rfl ?_
    refine lv_iload_n hx hb d_X_newPayer_87 rfl (lv_at hl 1 rfl) ?_
    refine lv_iload_n hx hb d_X_newPayer_88 rfl (lv_at hl 2 rfl) ?_
    have ⟨h35, hf⟩ := gd_e hf
    have ⟨x32, w33, h34, hf⟩ := kl_e hf
    refine g_kv (g_rI (As := [.int a1, .int a2]) (rest := [.ref (B + p30)]) hx hb hml hown hts hK hR hS (c_Wi_init l D cA oc B N p30 a1 a2 w31 h34) I_Wi_init rfl m_345 rfl rfl (Nat.le_of_ble_eq_true rfl) hl.1 ⟨Nat.le_of_ble_eq_true rfl, Nat.le_of_ble_eq_true rfl⟩ ⟨Nat.le_of_ble_eq_true rfl, Nat.le_of_ble_eq_true rfl⟩ d_X_newPayer_89) hS (fun H locs hR hS => ?_)
    refine W.widen (k := 1) (n := 3) (Nat.le_of_ble_eq_true rfl) (Nat.le_of_ble_eq_true rfl) ?_
    exact g_aret hx hb hr hlocks hR hS hf d_X_newPayer_92
  have hf := cd_f hc29 hf
  by_cases hc36 : a0 = 6
  · refine lv_tableIn (off := 92) (tgt := 93) hx hb d_X_newPayer_1 (by rw [hc36]; decide) (by rw [hc36]; decide) (by rw [hc36]; rfl) (by decide) ?_
    have hf := cd_t hc36 hf
    refine g_new (ci := 6) hx hb hts hown hK hR hS rfl i_To tk_P (by decide +kernel) m_353 m_354 m_13 (Nat.le_of_ble_eq_true rfl) (Nat.le_of_ble_eq_true rfl) d_X_newPayer_93 (fun H hR hS => ?_)
    refine g_nA hf (fun p37 hf => ?_)
    refine g_nW hf hR (fun w38 hf hR => ?_)
    refine lv_dup hx hb d_X_newPayer_96 rfl ?_
    refine lv_iload_n hx hb d_X_newPayer_97 rfl (lv_at hl 1 rfl) ?_
    refine lv_iload_n hx hb d_X_newPayer_98 rfl (lv_at hl 2 rfl) ?_
    have ⟨h42, hf⟩ := gd_e hf
    have ⟨x39, w40, h41, hf⟩ := kl_e hf
    refine g_kv (g_rI (As := [.int a1, .int a2]) (rest := [.ref (B + p37)]) hx hb hml hown hts hK hR hS (c_To_init l D cA oc B N p37 a1 a2 w38 h41) I_To_init rfl m_355 rfl rfl (Nat.le_of_ble_eq_true rfl) hl.1 ⟨Nat.le_of_ble_eq_true rfl, Nat.le_of_ble_eq_true rfl⟩ ⟨Nat.le_of_ble_eq_true rfl, Nat.le_of_ble_eq_true rfl⟩ d_X_newPayer_99) hS (fun H locs hR hS => ?_)
    refine W.widen (k := 1) (n := 3) (Nat.le_of_ble_eq_true rfl) (Nat.le_of_ble_eq_true rfl) ?_
    exact g_aret hx hb hr hlocks hR hS hf d_X_newPayer_102
  have hf := cd_f hc36 hf
  have hout : a0.toInt < 1 ∨ 6 < a0.toInt := by
    have := lv_neT (a := 1) hc1 rfl
    have := lv_neT (a := 2) hc8 rfl
    have := lv_neT (a := 3) hc15 rfl
    have := lv_neT (a := 4) hc22 rfl
    have := lv_neT (a := 5) hc29 rfl
    have := lv_neT (a := 6) hc36 rfl
    omega
  refine lv_tableOut (tgt := 103) hx hb d_X_newPayer_1 hout (by decide) ?_
  refine g_new (ci := 0) hx hb hts hown hK hR hS rfl i_P tk_P (by decide +kernel) m_363 m_364 m_7 (Nat.le_of_ble_eq_true rfl) (Nat.le_of_ble_eq_true rfl) d_X_newPayer_103 (fun H hR hS => ?_)
  refine g_nA hf (fun p43 hf => ?_)
  refine g_nW hf hR (fun w44 hf hR => ?_)
  refine lv_dup hx hb d_X_newPayer_106 rfl ?_
  refine lv_iconst (v := 0) hx hb d_X_newPayer_107 (by decide) ?_
  refine lv_iload_n hx hb d_X_newPayer_108 rfl (lv_at hl 1 rfl) ?_
  refine lv_iload_n hx hb d_X_newPayer_109 rfl (lv_at hl 2 rfl) ?_
  have ⟨h48, hf⟩ := gd_e hf
  have ⟨x45, w46, h47, hf⟩ := kl_e hf
  refine g_kv (g_rI (As := [.int 0, .int a1, .int a2]) (rest := [.ref (B + p43)]) hx hb hml hown hts hK hR hS (c_P_init l D cA oc B N p43 0 a1 a2 w44 h47) I_P_init rfl m_365 rfl rfl (Nat.le_of_ble_eq_true rfl) hl.1 ⟨Nat.le_of_ble_eq_true rfl, Nat.le_of_ble_eq_true rfl⟩ ⟨Nat.le_of_ble_eq_true rfl, Nat.le_of_ble_eq_true rfl⟩ d_X_newPayer_110) hS (fun H locs hR hS => ?_)
  refine W.widen (k := 1) (n := 3) (Nat.le_of_ble_eq_true rfl) (Nat.le_of_ble_eq_true rfl) ?_
  exact g_aret hx hb hr hlocks hR hS hf d_X_newPayer_113
theorem c_X_newPayer (l : Launch) (D : va_G) (cA : Nat → ClassId) (oc : gO) (B N : Nat) (a0 : Int32) (a1 : Int32) (a2 : Int32) (w : gW) {wz : gW} {r : Option Nat} (hf : f_X_newPayer N a0 a1 a2 w = some (r, wz)) : Met l y_X_newPayer (Cond.code y_X_newPayer b_X_newPayer 3 (some (FieldType.object "RidCoppers$Payer")) :: lw_good) ({ frames := 4, cells := 1, slots := 3, locals := 128 } : Room) (gPre D cA oc B [.int a0, .int a1, .int a2] w) (gQr D cA B r wz) 1 3 (gA B) := by
  refine Met.ofW (cc := b_X_newPayer) (maxL := 3) (ret := (some (FieldType.object "RidCoppers$Payer"))) (by decide +kernel) rfl ?_
  intro p e s m args below meth c s₁ Bd hml hv
  obtain ⟨hargs, C, hR⟩ := gC.enter (l := l) rfl Bd hml hv
  subst hargs
  have hl := lv_entry ([.int a0, .int a1, .int a2]) (n := 3) (Nat.le_of_ble_eq_true rfl)
  rw [lg_entry_eq]
  generalize (lg_sl ([.int a0, .int a1, .int a2]) ++ List.replicate (3 - (lg_sl ([.int a0, .int a1, .int a2])).length) Slot.unset).toArray = ls at hl ⊢
  have hl : lv_has ls 3 [(0, .int a0), (1, .int a1), (2, .int a2)] := hl
  exact c_X_newPayer_b0 C a0 a1 a2 w (lv_sub hl [0, 1, 2] rfl) hf hR va_S.rf
theorem d_X_payer_0 : decode b_X_payer 0 = .ok (.iload_n 1, 1) := by decide +kernel
theorem d_X_payer_1 : decode b_X_payer 1 = .ok (.ifCond .lt 9, 3) := by decide +kernel
theorem d_X_payer_4 : decode b_X_payer 4 = .ok (.iload_n 1, 1) := by decide +kernel
theorem d_X_payer_5 : decode b_X_payer 5 = .ok (.bipush 7, 2) := by decide +kernel
theorem d_X_payer_7 : decode b_X_payer 7 = .ok (.if_icmp .lt 5, 3) := by decide +kernel
theorem d_X_payer_10 : decode b_X_payer 10 = .ok (.iconst (-1), 1) := by decide +kernel
theorem d_X_payer_11 : decode b_X_payer 11 = .ok (.ireturn, 1) := by decide +kernel
theorem d_X_payer_12 : decode b_X_payer 12 = .ok (.iload_n 2, 1) := by decide +kernel
theorem d_X_payer_13 : decode b_X_payer 13 = .ok (.ifCond .lt 9, 3) := by decide +kernel
theorem d_X_payer_16 : decode b_X_payer 16 = .ok (.iload_n 2, 1) := by decide +kernel
theorem d_X_payer_17 : decode b_X_payer 17 = .ok (.bipush 9, 2) := by decide +kernel
theorem d_X_payer_19 : decode b_X_payer 19 = .ok (.if_icmp .le 6, 3) := by decide +kernel
theorem d_X_payer_22 : decode b_X_payer 22 = .ok (.bipush (-2), 2) := by decide +kernel
theorem d_X_payer_24 : decode b_X_payer 24 = .ok (.ireturn, 1) := by decide +kernel
theorem d_X_payer_25 : decode b_X_payer 25 = .ok (.aload_n 0, 1) := by decide +kernel
theorem d_X_payer_26 : decode b_X_payer 26 = .ok (.getfield 23, 3) := by decide +kernel
theorem d_X_payer_29 : decode b_X_payer 29 = .ok (.getfield 81, 3) := by decide +kernel
theorem d_X_payer_32 : decode b_X_payer 32 = .ok (.iconst 4, 1) := by decide +kernel
theorem d_X_payer_33 : decode b_X_payer 33 = .ok (.if_icmp .lt 6, 3) := by decide +kernel
theorem d_X_payer_36 : decode b_X_payer 36 = .ok (.bipush (-4), 2) := by decide +kernel
theorem d_X_payer_38 : decode b_X_payer 38 = .ok (.ireturn, 1) := by decide +kernel
theorem d_X_payer_39 : decode b_X_payer 39 = .ok (.aload_n 0, 1) := by decide +kernel
theorem d_X_payer_40 : decode b_X_payer 40 = .ok (.getfield 23, 3) := by decide +kernel
theorem d_X_payer_43 : decode b_X_payer 43 = .ok (.getfield 81, 3) := by decide +kernel
theorem d_X_payer_46 : decode b_X_payer 46 = .ok (.istore_n 3, 1) := by decide +kernel
theorem d_X_payer_47 : decode b_X_payer 47 = .ok (.aload_n 0, 1) := by decide +kernel
theorem d_X_payer_48 : decode b_X_payer 48 = .ok (.getfield 23, 3) := by decide +kernel
theorem d_X_payer_51 : decode b_X_payer 51 = .ok (.getfield 84, 3) := by decide +kernel
theorem d_X_payer_54 : decode b_X_payer 54 = .ok (.iload_n 3, 1) := by decide +kernel
theorem d_X_payer_55 : decode b_X_payer 55 = .ok (.iload_n 1, 1) := by decide +kernel
theorem d_X_payer_56 : decode b_X_payer 56 = .ok (.iload_n 3, 1) := by decide +kernel
theorem d_X_payer_57 : decode b_X_payer 57 = .ok (.iload_n 2, 1) := by decide +kernel
theorem d_X_payer_58 : decode b_X_payer 58 = .ok (.invokestatic 88, 3) := by decide +kernel
theorem d_X_payer_61 : decode b_X_payer 61 = .ok (.aastore, 1) := by decide +kernel
theorem d_X_payer_62 : decode b_X_payer 62 = .ok (.aload_n 0, 1) := by decide +kernel
theorem d_X_payer_63 : decode b_X_payer 63 = .ok (.getfield 23, 3) := by decide +kernel
theorem d_X_payer_66 : decode b_X_payer 66 = .ok (.dup, 1) := by decide +kernel
theorem d_X_payer_67 : decode b_X_payer 67 = .ok (.getfield 81, 3) := by decide +kernel
theorem d_X_payer_70 : decode b_X_payer 70 = .ok (.iconst 1, 1) := by decide +kernel
theorem d_X_payer_71 : decode b_X_payer 71 = .ok (.iadd, 1) := by decide +kernel
theorem d_X_payer_72 : decode b_X_payer 72 = .ok (.putfield 81, 3) := by decide +kernel
theorem d_X_payer_75 : decode b_X_payer 75 = .ok (.iload_n 3, 1) := by decide +kernel
theorem d_X_payer_76 : decode b_X_payer 76 = .ok (.ireturn, 1) := by decide +kernel
set_option maxRecDepth 20000 in
theorem c_X_payer_b0 {r : Int32} {wz : gW} (C : gC p s m args meth c "RidCoppers" b_X_payer 4 (some .int) D cA oc B) (a0 : Nat) (a1 : Int32) (a2 : Int32) (w : gW) {ls : Array Slot} {H : Heap} {locs : List Loc} (hl : lv_has ls 4 [(0, .ref (B + a0)), (1, .int a1), (2, .int a2)]) (hf : f_X_payer_b0 N a0 a1 a2 w = some (r, wz)) (hR : gRep D cA B w H) (hS : va_S (gA B) s.heap H locs) : W p l e ({ frames := 5, cells := 1, slots := 3, locals := 150 } : Room) s m args below meth c H locs 0 0 (MQ below (gQi D cA B r wz) args s 1 3 (gA B)) (F0 m 0 ls []) := by
  obtain ⟨hx, hb, hml, hown, hts, hr, hlocks, hK, hBs⟩ := id C
  unfold f_X_payer_b0 at hf
  refine lv_iload_n hx hb d_X_payer_0 rfl (lv_at hl 1 rfl) ?_
  refine lv_if_lt (tgt := 10) hx hb d_X_payer_1 (by decide) (fun hc => ?_) (fun hc => ?_)
  · have hf := cd_t hc hf
    refine lv_iconst (v := (-1)) hx hb d_X_payer_10 (by decide) ?_
    refine W.widen (k := 1) (n := 3) (Nat.le_of_ble_eq_true rfl) (Nat.le_of_ble_eq_true rfl) ?_
    exact g_iret hx hb hr hlocks hR hS hf rfl d_X_payer_11
  have hf := cd_f hc hf
  refine lv_iload_n hx hb d_X_payer_4 rfl (lv_at hl 1 rfl) ?_
  refine lv_bipush (v := 7) hx hb d_X_payer_5 (by decide) ?_
  refine lv_icmp_lt (tgt := 12) hx hb d_X_payer_7 (by decide) (fun hc => ?_) (fun hc => ?_)
  · have hf := cd_t hc hf
    refine lv_iload_n hx hb d_X_payer_12 rfl (lv_at hl 2 rfl) ?_
    refine lv_if_lt (tgt := 22) hx hb d_X_payer_13 (by decide) (fun hc => ?_) (fun hc => ?_)
    · have hf := cd_t hc hf
      refine lv_bipush (v := (-2)) hx hb d_X_payer_22 (by decide) ?_
      refine W.widen (k := 1) (n := 3) (Nat.le_of_ble_eq_true rfl) (Nat.le_of_ble_eq_true rfl) ?_
      exact g_iret hx hb hr hlocks hR hS hf rfl d_X_payer_24
    have hf := cd_f hc hf
    refine lv_iload_n hx hb d_X_payer_16 rfl (lv_at hl 2 rfl) ?_
    refine lv_bipush (v := 9) hx hb d_X_payer_17 (by decide) ?_
    refine lv_icmp_le (tgt := 25) hx hb d_X_payer_19 (by decide) (fun hc => ?_) (fun hc => ?_)
    · have hf := cd_t hc hf
      refine lv_aload_n hx hb d_X_payer_25 rfl (lv_at hl 0 rfl) ?_
      have ⟨h1, hf⟩ := gd_e hf
      have ⟨x2, h3, hf⟩ := rr_e hf
      refine g_getR hx hb hts hown hK hR fl_X_23 (fun _ => rfl) h1 h3 d_X_payer_26 ?_
      have ⟨h4, hf⟩ := gd_e hf
      refine g_getI hx hb hts hown hK hR fl_X_81 (fun _ => rfl) h4 d_X_payer_29 ?_
      refine g_nI hf (fun x5 hf => ?_)
      refine lv_iconst (v := 4) hx hb d_X_payer_32 (by decide) ?_
      refine lv_icmp_lt (tgt := 39) hx hb d_X_payer_33 (by decide) (fun hc => ?_) (fun hc => ?_)
      · have hf := cd_t hc hf
        refine lv_aload_n hx hb d_X_payer_39 rfl (lv_at hl 0 rfl) ?_
        refine g_getR hx hb hts hown hK hR fl_X_23 (fun _ => rfl) h1 h3 d_X_payer_40 ?_
        refine g_getI hx hb hts hown hK hR fl_X_81 (fun _ => rfl) h4 d_X_payer_43 ?_
        refine g_nI hf (fun x6 hf => ?_)
        refine lv_istore_n (lv' := [(3, .int x6), (0, .ref (B + a0)), (1, .int a1), (2, .int a2)]) hx hb d_X_payer_46 rfl hl (by decide) rfl (fun ls hl => ?_)
        refine lv_aload_n hx hb d_X_payer_47 rfl (lv_at hl 1 rfl) ?_
        refine g_getR hx hb hts hown hK hR fl_X_23 (fun _ => rfl) h1 h3 d_X_payer_48 ?_
        have ⟨x7, h8, hf⟩ := rr_e hf
        refine g_getR hx hb hts hown hK hR fl_X_84 (fun _ => rfl) h4 h8 d_X_payer_51 ?_
        refine lv_iload_n hx hb d_X_payer_54 rfl (lv_at hl 0 rfl) ?_
        refine lv_iload_n hx hb d_X_payer_55 rfl (lv_at hl 2 rfl) ?_
        refine lv_iload_n hx hb d_X_payer_56 rfl (lv_at hl 0 rfl) ?_
        refine lv_iload_n hx hb d_X_payer_57 rfl (lv_at hl 3 rfl) ?_
        have ⟨x9, w10, h11, hf⟩ := kl_e hf
        refine g_kr (g_rS (As := [.int a1, .int x6, .int a2]) (rest := [.int x6, .ref (B + x7)]) hx hb hml hown hts hK hR hS (c_X_newPayer l D cA oc B N a1 x6 a2 w h11) I_X_newPayer m_278 rfl rfl (Nat.le_of_ble_eq_true rfl) hl.1 ⟨Nat.le_of_ble_eq_true rfl, Nat.le_of_ble_eq_true rfl⟩ ⟨Nat.le_of_ble_eq_true rfl, Nat.le_of_ble_eq_true rfl⟩ d_X_payer_58) hS (fun H locs hR hS => ?_)
        rcases x9 with _ | x12
        · exact (rr_n hf).elim
        have hf := rr_s hf
        have ⟨h14, hf⟩ := gd_e hf
        have ⟨h15, hf⟩ := gd_e hf
        have ⟨h16, hf⟩ := gd_e hf
        refine g_aast hx hb hK hR hS (by decide) rfl (g_anyP hK hR h16) h14 h15 d_X_payer_61 (fun H locs hR hS => ?_)
        refine g_nW hf hR (fun w17 hf hR => ?_)
        refine lv_aload_n hx hb d_X_payer_62 rfl (lv_at hl 1 rfl) ?_
        have ⟨h18, hf⟩ := gd_e hf
        have ⟨x19, h20, hf⟩ := rr_e hf
        refine g_getR hx hb hts hown hK hR fl_X_23 (fun _ => rfl) h18 h20 d_X_payer_63 ?_
        refine lv_dup hx hb d_X_payer_66 rfl ?_
        have ⟨h21, hf⟩ := gd_e hf
        refine g_getI hx hb hts hown hK hR fl_X_81 (fun _ => rfl) h21 d_X_payer_67 ?_
        refine g_nI hf (fun x22 hf => ?_)
        refine lv_iconst (v := 1) hx hb d_X_payer_70 (by decide) ?_
        refine lv_iadd hx hb d_X_payer_71 ?_
        refine g_nI hf (fun x23 hf => ?_)
        refine g_putI hx hb hts hown hK hR hS pf_X_81 (fun _ => rfl) rfl rfl h21 d_X_payer_72 (fun H locs hR hS => ?_)
        refine g_nW hf hR (fun w24 hf hR => ?_)
        refine lv_iload_n hx hb d_X_payer_75 rfl (lv_at hl 0 rfl) ?_
        refine W.widen (k := 1) (n := 3) (Nat.le_of_ble_eq_true rfl) (Nat.le_of_ble_eq_true rfl) ?_
        exact g_iret hx hb hr hlocks hR hS hf rfl d_X_payer_76
      have hf := cd_f hc hf
      refine lv_bipush (v := (-4)) hx hb d_X_payer_36 (by decide) ?_
      refine W.widen (k := 1) (n := 3) (Nat.le_of_ble_eq_true rfl) (Nat.le_of_ble_eq_true rfl) ?_
      exact g_iret hx hb hr hlocks hR hS hf rfl d_X_payer_38
    have hf := cd_f hc hf
    refine lv_bipush (v := (-2)) hx hb d_X_payer_22 (by decide) ?_
    refine W.widen (k := 1) (n := 3) (Nat.le_of_ble_eq_true rfl) (Nat.le_of_ble_eq_true rfl) ?_
    exact g_iret hx hb hr hlocks hR hS hf rfl d_X_payer_24
  have hf := cd_f hc hf
  refine lv_iconst (v := (-1)) hx hb d_X_payer_10 (by decide) ?_
  refine W.widen (k := 1) (n := 3) (Nat.le_of_ble_eq_true rfl) (Nat.le_of_ble_eq_true rfl) ?_
  exact g_iret hx hb hr hlocks hR hS hf rfl d_X_payer_11
theorem c_X_payer (l : Launch) (D : va_G) (cA : Nat → ClassId) (oc : gO) (B N : Nat) (a0 : Nat) (a1 : Int32) (a2 : Int32) (w : gW) {wz : gW} {r : Int32} (hf : f_X_payer N a0 a1 a2 w = some (r, wz)) : Met l y_X_payer (Cond.code y_X_payer b_X_payer 4 (some .int) :: lw_good) ({ frames := 5, cells := 1, slots := 3, locals := 150 } : Room) (gPre D cA oc B [.ref (B + a0), .int a1, .int a2] w) (gQi D cA B r wz) 1 3 (gA B) := by
  refine Met.ofW (cc := b_X_payer) (maxL := 4) (ret := (some .int)) (by decide +kernel) rfl ?_
  intro p e s m args below meth c s₁ Bd hml hv
  obtain ⟨hargs, C, hR⟩ := gC.enter (l := l) rfl Bd hml hv
  subst hargs
  have hl := lv_entry ([.ref (B + a0), .int a1, .int a2]) (n := 4) (Nat.le_of_ble_eq_true rfl)
  rw [lg_entry_eq]
  generalize (lg_sl ([.ref (B + a0), .int a1, .int a2]) ++ List.replicate (4 - (lg_sl ([.ref (B + a0), .int a1, .int a2])).length) Slot.unset).toArray = ls at hl ⊢
  have hl : lv_has ls 4 [(0, .ref (B + a0)), (1, .int a1), (2, .int a2)] := hl
  exact c_X_payer_b0 C a0 a1 a2 w (lv_sub hl [0, 1, 2] rfl) hf hR va_S.rf
theorem d_X_isSort_0 : decode b_X_isSort 0 = .ok (.iload_n 0, 1) := by decide +kernel
theorem d_X_isSort_1 : decode b_X_isSort 1 = .ok (.ifCond .lt 13, 3) := by decide +kernel
theorem d_X_isSort_4 : decode b_X_isSort 4 = .ok (.iload_n 0, 1) := by decide +kernel
theorem d_X_isSort_5 : decode b_X_isSort 5 = .ok (.bipush 6, 2) := by decide +kernel
theorem d_X_isSort_7 : decode b_X_isSort 7 = .ok (.if_icmp .ge 7, 3) := by decide +kernel
theorem d_X_isSort_10 : decode b_X_isSort 10 = .ok (.iconst 1, 1) := by decide +kernel
theorem d_X_isSort_11 : decode b_X_isSort 11 = .ok (.goto 4, 3) := by decide +kernel
theorem d_X_isSort_14 : decode b_X_isSort 14 = .ok (.iconst 0, 1) := by decide +kernel
theorem d_X_isSort_15 : decode b_X_isSort 15 = .ok (.ireturn, 1) := by decide +kernel
set_option maxRecDepth 20000 in
theorem c_X_isSort_b0 {r : Int32} {wz : gW} (C : gC p s m args meth c "RidCoppers" b_X_isSort 1 (some .boolean) D cA oc B) (a0 : Int32) (w : gW) {ls : Array Slot} {H : Heap} {locs : List Loc} (hl : lv_has ls 1 [(0, .int a0)]) (hf : f_X_isSort_b0 N a0 w = some (r, wz)) (hR : gRep D cA B w H) (hS : va_S (gA B) s.heap H locs) : W p l e ({ frames := 1, cells := 0, slots := 0, locals := 40 } : Room) s m args below meth c H locs 0 0 (MQ below (gQi D cA B r wz) args s 0 0 (gA B)) (F0 m 0 ls []) := by
  obtain ⟨hx, hb, hml, hown, hts, hr, hlocks, hK, hBs⟩ := id C
  unfold f_X_isSort_b0 at hf
  refine lv_iload_n hx hb d_X_isSort_0 rfl (lv_at hl 0 rfl) ?_
  refine lv_if_lt (tgt := 14) hx hb d_X_isSort_1 (by decide) (fun hc => ?_) (fun hc => ?_)
  · have hf := cd_t hc hf
    refine lv_iconst (v := 0) hx hb d_X_isSort_14 (by decide) ?_
    exact g_iret hx hb hr hlocks hR hS hf rfl d_X_isSort_15
  have hf := cd_f hc hf
  refine lv_iload_n hx hb d_X_isSort_4 rfl (lv_at hl 0 rfl) ?_
  refine lv_bipush (v := 6) hx hb d_X_isSort_5 (by decide) ?_
  refine lv_icmp_ge (tgt := 14) hx hb d_X_isSort_7 (by decide) (fun hc => ?_) (fun hc => ?_)
  · have hf := cd_t hc hf
    refine lv_iconst (v := 0) hx hb d_X_isSort_14 (by decide) ?_
    exact g_iret hx hb hr hlocks hR hS hf rfl d_X_isSort_15
  have hf := cd_f hc hf
  refine lv_iconst (v := 1) hx hb d_X_isSort_10 (by decide) ?_
  refine lv_goto (tgt := 15) hx hb d_X_isSort_11 (by decide) ?_
  exact g_iret hx hb hr hlocks hR hS hf rfl d_X_isSort_15
theorem c_X_isSort (l : Launch) (D : va_G) (cA : Nat → ClassId) (oc : gO) (B N : Nat) (a0 : Int32) (w : gW) {wz : gW} {r : Int32} (hf : f_X_isSort N a0 w = some (r, wz)) : Met l y_X_isSort (Cond.code y_X_isSort b_X_isSort 1 (some .boolean) :: lw_good) ({ frames := 1, cells := 0, slots := 0, locals := 40 } : Room) (gPre D cA oc B [.int a0] w) (gQi D cA B r wz) 0 0 (gA B) := by
  refine Met.ofW (cc := b_X_isSort) (maxL := 1) (ret := (some .boolean)) (by decide +kernel) rfl ?_
  intro p e s m args below meth c s₁ Bd hml hv
  obtain ⟨hargs, C, hR⟩ := gC.enter (l := l) rfl Bd hml hv
  subst hargs
  have hl := lv_entry ([.int a0]) (n := 1) (Nat.le_of_ble_eq_true rfl)
  rw [lg_entry_eq]
  generalize (lg_sl ([.int a0]) ++ List.replicate (1 - (lg_sl ([.int a0])).length) Slot.unset).toArray = ls at hl ⊢
  have hl : lv_has ls 1 [(0, .int a0)] := hl
  exact c_X_isSort_b0 C a0 w (lv_sub hl [0] rfl) hf hR va_S.rf
theorem d_X_payerAt_0 : decode b_X_payerAt 0 = .ok (.iload_n 1, 1) := by decide +kernel
theorem d_X_payerAt_1 : decode b_X_payerAt 1 = .ok (.ifCond .lt 14, 3) := by decide +kernel
theorem d_X_payerAt_4 : decode b_X_payerAt 4 = .ok (.iload_n 1, 1) := by decide +kernel
theorem d_X_payerAt_5 : decode b_X_payerAt 5 = .ok (.aload_n 0, 1) := by decide +kernel
theorem d_X_payerAt_6 : decode b_X_payerAt 6 = .ok (.getfield 23, 3) := by decide +kernel
theorem d_X_payerAt_9 : decode b_X_payerAt 9 = .ok (.getfield 81, 3) := by decide +kernel
theorem d_X_payerAt_12 : decode b_X_payerAt 12 = .ok (.if_icmp .lt 5, 3) := by decide +kernel
theorem d_X_payerAt_15 : decode b_X_payerAt 15 = .ok (.aconst_null, 1) := by decide +kernel
theorem d_X_payerAt_16 : decode b_X_payerAt 16 = .ok (.areturn, 1) := by decide +kernel
theorem d_X_payerAt_17 : decode b_X_payerAt 17 = .ok (.aload_n 0, 1) := by decide +kernel
theorem d_X_payerAt_18 : decode b_X_payerAt 18 = .ok (.getfield 23, 3) := by decide +kernel
theorem d_X_payerAt_21 : decode b_X_payerAt 21 = .ok (.getfield 84, 3) := by decide +kernel
theorem d_X_payerAt_24 : decode b_X_payerAt 24 = .ok (.iload_n 1, 1) := by decide +kernel
theorem d_X_payerAt_25 : decode b_X_payerAt 25 = .ok (.aaload, 1) := by decide +kernel
theorem d_X_payerAt_26 : decode b_X_payerAt 26 = .ok (.areturn, 1) := by decide +kernel
set_option maxRecDepth 20000 in
theorem c_X_payerAt_b0 {r : Option Nat} {wz : gW} (C : gC p s m args meth c "RidCoppers" b_X_payerAt 2 (some (FieldType.object "RidCoppers$Payer")) D cA oc B) (a0 : Nat) (a1 : Int32) (w : gW) {ls : Array Slot} {H : Heap} {locs : List Loc} (hl : lv_has ls 2 [(0, .ref (B + a0)), (1, .int a1)]) (hf : f_X_payerAt_b0 N a0 a1 w = some (r, wz)) (hR : gRep D cA B w H) (hS : va_S (gA B) s.heap H locs) : W p l e ({ frames := 1, cells := 0, slots := 0, locals := 40 } : Room) s m args below meth c H locs 0 0 (MQ below (gQr D cA B r wz) args s 0 0 (gA B)) (F0 m 0 ls []) := by
  obtain ⟨hx, hb, hml, hown, hts, hr, hlocks, hK, hBs⟩ := id C
  unfold f_X_payerAt_b0 at hf
  refine lv_iload_n hx hb d_X_payerAt_0 rfl (lv_at hl 1 rfl) ?_
  refine lv_if_lt (tgt := 15) hx hb d_X_payerAt_1 (by decide) (fun hc => ?_) (fun hc => ?_)
  · have hf := cd_t hc hf
    refine lv_null hx hb d_X_payerAt_15 ?_
    exact g_aretN hx hb hr hlocks hR hS hf d_X_payerAt_16
  have hf := cd_f hc hf
  refine lv_iload_n hx hb d_X_payerAt_4 rfl (lv_at hl 1 rfl) ?_
  refine lv_aload_n hx hb d_X_payerAt_5 rfl (lv_at hl 0 rfl) ?_
  have ⟨h1, hf⟩ := gd_e hf
  have ⟨x2, h3, hf⟩ := rr_e hf
  refine g_getR hx hb hts hown hK hR fl_X_23 (fun _ => rfl) h1 h3 d_X_payerAt_6 ?_
  have ⟨h4, hf⟩ := gd_e hf
  refine g_getI hx hb hts hown hK hR fl_X_81 (fun _ => rfl) h4 d_X_payerAt_9 ?_
  refine g_nI hf (fun x5 hf => ?_)
  refine lv_icmp_lt (tgt := 17) hx hb d_X_payerAt_12 (by decide) (fun hc => ?_) (fun hc => ?_)
  · have hf := cd_t hc hf
    refine lv_aload_n hx hb d_X_payerAt_17 rfl (lv_at hl 0 rfl) ?_
    refine g_getR hx hb hts hown hK hR fl_X_23 (fun _ => rfl) h1 h3 d_X_payerAt_18 ?_
    have ⟨x6, h7, hf⟩ := rr_e hf
    refine g_getR hx hb hts hown hK hR fl_X_84 (fun _ => rfl) h4 h7 d_X_payerAt_21 ?_
    refine lv_iload_n hx hb d_X_payerAt_24 rfl (lv_at hl 1 rfl) ?_
    have ⟨h8, hf⟩ := gd_e hf
    have ⟨h9, hf⟩ := gd_e hf
    rcases nr_e hf with ⟨h11, hf⟩ | ⟨x10, h11, hf⟩
    · refine g_aaldN hx hb hK hR (by decide) rfl (fun _ _ => rfl) h8 h9 h11 d_X_payerAt_25 ?_
      exact g_aretN hx hb hr hlocks hR hS hf d_X_payerAt_26
    refine g_aald hx hb hK hR (by decide) rfl (fun _ _ => rfl) h8 h9 h11 d_X_payerAt_25 ?_
    exact g_aret hx hb hr hlocks hR hS hf d_X_payerAt_26
  have hf := cd_f hc hf
  refine lv_null hx hb d_X_payerAt_15 ?_
  exact g_aretN hx hb hr hlocks hR hS hf d_X_payerAt_16
theorem c_X_payerAt (l : Launch) (D : va_G) (cA : Nat → ClassId) (oc : gO) (B N : Nat) (a0 : Nat) (a1 : Int32) (w : gW) {wz : gW} {r : Option Nat} (hf : f_X_payerAt N a0 a1 w = some (r, wz)) : Met l y_X_payerAt (Cond.code y_X_payerAt b_X_payerAt 2 (some (FieldType.object "RidCoppers$Payer")) :: lw_good) ({ frames := 1, cells := 0, slots := 0, locals := 40 } : Room) (gPre D cA oc B [.ref (B + a0), .int a1] w) (gQr D cA B r wz) 0 0 (gA B) := by
  refine Met.ofW (cc := b_X_payerAt) (maxL := 2) (ret := (some (FieldType.object "RidCoppers$Payer"))) (by decide +kernel) rfl ?_
  intro p e s m args below meth c s₁ Bd hml hv
  obtain ⟨hargs, C, hR⟩ := gC.enter (l := l) rfl Bd hml hv
  subst hargs
  have hl := lv_entry ([.ref (B + a0), .int a1]) (n := 2) (Nat.le_of_ble_eq_true rfl)
  rw [lg_entry_eq]
  generalize (lg_sl ([.ref (B + a0), .int a1]) ++ List.replicate (2 - (lg_sl ([.ref (B + a0), .int a1])).length) Slot.unset).toArray = ls at hl ⊢
  have hl : lv_has ls 2 [(0, .ref (B + a0)), (1, .int a1)] := hl
  exact c_X_payerAt_b0 C a0 a1 w (lv_sub hl [0, 1] rfl) hf hR va_S.rf
theorem d_X_of_0 : decode b_X_of 0 = .ok (.aload_n 0, 1) := by decide +kernel
theorem d_X_of_1 : decode b_X_of 1 = .ok (.iload_n 1, 1) := by decide +kernel
theorem d_X_of_2 : decode b_X_of 2 = .ok (.invokevirtual 92, 3) := by decide +kernel
theorem d_X_of_5 : decode b_X_of 5 = .ok (.astore_n 3, 1) := by decide +kernel
theorem d_X_of_6 : decode b_X_of 6 = .ok (.aload_n 3, 1) := by decide +kernel
theorem d_X_of_7 : decode b_X_of 7 = .ok (.ifnonnull 5, 3) := by decide +kernel
theorem d_X_of_10 : decode b_X_of 10 = .ok (.iconst (-1), 1) := by decide +kernel
theorem d_X_of_11 : decode b_X_of 11 = .ok (.ireturn, 1) := by decide +kernel
theorem d_X_of_12 : decode b_X_of 12 = .ok (.iload_n 2, 1) := by decide +kernel
theorem d_X_of_13 : decode b_X_of 13 = .ok (.bipush 10, 2) := by decide +kernel
theorem d_X_of_15 : decode b_X_of 15 = .ok (.isub, 1) := by decide +kernel
theorem d_X_of_16 : decode b_X_of 16 = .ok (.invokestatic 96, 3) := by decide +kernel
theorem d_X_of_19 : decode b_X_of 19 = .ok (.ifCond .eq 18, 3) := by decide +kernel
theorem d_X_of_22 : decode b_X_of 22 = .ok (.aload_n 0, 1) := by decide +kernel
theorem d_X_of_23 : decode b_X_of 23 = .ok (.getfield 23, 3) := by decide +kernel
theorem d_X_of_26 : decode b_X_of 26 = .ok (.getfield 100, 3) := by decide +kernel
theorem d_X_of_29 : decode b_X_of 29 = .ok (.iload_n 1, 1) := by decide +kernel
theorem d_X_of_30 : decode b_X_of 30 = .ok (.aaload, 1) := by decide +kernel
theorem d_X_of_31 : decode b_X_of 31 = .ok (.iload_n 2, 1) := by decide +kernel
theorem d_X_of_32 : decode b_X_of 32 = .ok (.bipush 10, 2) := by decide +kernel
theorem d_X_of_34 : decode b_X_of 34 = .ok (.isub, 1) := by decide +kernel
theorem d_X_of_35 : decode b_X_of 35 = .ok (.iaload, 1) := by decide +kernel
theorem d_X_of_36 : decode b_X_of 36 = .ok (.ireturn, 1) := by decide +kernel
theorem d_X_of_37 : decode b_X_of 37 = .ok (.iload_n 2, 1) := by decide +kernel
theorem d_X_of_38 : decode b_X_of 38 = .ok (.bipush 20, 2) := by decide +kernel
theorem d_X_of_40 : decode b_X_of 40 = .ok (.isub, 1) := by decide +kernel
theorem d_X_of_41 : decode b_X_of 41 = .ok (.invokestatic 96, 3) := by decide +kernel
theorem d_X_of_44 : decode b_X_of 44 = .ok (.ifCond .eq 23, 3) := by decide +kernel
theorem d_X_of_47 : decode b_X_of 47 = .ok (.aload_n 0, 1) := by decide +kernel
theorem d_X_of_48 : decode b_X_of 48 = .ok (.getfield 23, 3) := by decide +kernel
theorem d_X_of_51 : decode b_X_of 51 = .ok (.getfield 104, 3) := by decide +kernel
theorem d_X_of_54 : decode b_X_of 54 = .ok (.aload_n 0, 1) := by decide +kernel
theorem d_X_of_55 : decode b_X_of 55 = .ok (.getfield 23, 3) := by decide +kernel
theorem d_X_of_58 : decode b_X_of 58 = .ok (.aload_n 3, 1) := by decide +kernel
theorem d_X_of_59 : decode b_X_of 59 = .ok (.iload_n 2, 1) := by decide +kernel
theorem d_X_of_60 : decode b_X_of 60 = .ok (.bipush 20, 2) := by decide +kernel
theorem d_X_of_62 : decode b_X_of 62 = .ok (.isub, 1) := by decide +kernel
theorem d_X_of_63 : decode b_X_of 63 = .ok (.invokevirtual 107, 3) := by decide +kernel
theorem d_X_of_66 : decode b_X_of 66 = .ok (.ireturn, 1) := by decide +kernel
theorem d_X_of_67 : decode b_X_of 67 = .ok (.iload_n 2, 1) := by decide +kernel
theorem d_X_of_68 : decode b_X_of 68 = .ok (.tableswitch 74 0 4 #[36, 41, 46, 56, 65], 36) := by decide +kernel
theorem d_X_of_104 : decode b_X_of 104 = .ok (.aload_n 3, 1) := by decide +kernel
theorem d_X_of_105 : decode b_X_of 105 = .ok (.getfield 111, 3) := by decide +kernel
theorem d_X_of_108 : decode b_X_of 108 = .ok (.ireturn, 1) := by decide +kernel
theorem d_X_of_109 : decode b_X_of 109 = .ok (.aload_n 3, 1) := by decide +kernel
theorem d_X_of_110 : decode b_X_of 110 = .ok (.getfield 116, 3) := by decide +kernel
theorem d_X_of_113 : decode b_X_of 113 = .ok (.ireturn, 1) := by decide +kernel
theorem d_X_of_114 : decode b_X_of 114 = .ok (.aload_n 0, 1) := by decide +kernel
theorem d_X_of_115 : decode b_X_of 115 = .ok (.getfield 23, 3) := by decide +kernel
theorem d_X_of_118 : decode b_X_of 118 = .ok (.getfield 119, 3) := by decide +kernel
theorem d_X_of_121 : decode b_X_of 121 = .ok (.iload_n 1, 1) := by decide +kernel
theorem d_X_of_122 : decode b_X_of 122 = .ok (.iaload, 1) := by decide +kernel
theorem d_X_of_123 : decode b_X_of 123 = .ok (.ireturn, 1) := by decide +kernel
theorem d_X_of_124 : decode b_X_of 124 = .ok (.aload_n 0, 1) := by decide +kernel
theorem d_X_of_125 : decode b_X_of 125 = .ok (.getfield 23, 3) := by decide +kernel
theorem d_X_of_128 : decode b_X_of 128 = .ok (.iload_n 1, 1) := by decide +kernel
theorem d_X_of_129 : decode b_X_of 129 = .ok (.invokevirtual 122, 3) := by decide +kernel
theorem d_X_of_132 : decode b_X_of 132 = .ok (.ireturn, 1) := by decide +kernel
theorem d_X_of_133 : decode b_X_of 133 = .ok (.aload_n 0, 1) := by decide +kernel
theorem d_X_of_134 : decode b_X_of 134 = .ok (.getfield 23, 3) := by decide +kernel
theorem d_X_of_137 : decode b_X_of 137 = .ok (.iload_n 1, 1) := by decide +kernel
theorem d_X_of_138 : decode b_X_of 138 = .ok (.invokevirtual 126, 3) := by decide +kernel
theorem d_X_of_141 : decode b_X_of 141 = .ok (.ireturn, 1) := by decide +kernel
theorem d_X_of_142 : decode b_X_of 142 = .ok (.iconst (-1), 1) := by decide +kernel
theorem d_X_of_143 : decode b_X_of 143 = .ok (.ireturn, 1) := by decide +kernel
set_option maxRecDepth 20000 in
theorem c_X_of_b0 {r : Int32} {wz : gW} (C : gC p s m args meth c "RidCoppers" b_X_of 4 (some .int) D cA oc B) (a0 : Nat) (a1 : Int32) (a2 : Int32) (w : gW) {ls : Array Slot} {H : Heap} {locs : List Loc} (hl : lv_has ls 4 [(0, .ref (B + a0)), (1, .int a1), (2, .int a2)]) (hf : f_X_of_b0 N a0 a1 a2 w = some (r, wz)) (hR : gRep D cA B w H) (hS : va_S (gA B) s.heap H locs) : W p l e ({ frames := 5, cells := 0, slots := 0, locals := 135 } : Room) s m args below meth c H locs 0 0 (MQ below (gQi D cA B r wz) args s 0 0 (gA B)) (F0 m 0 ls []) := by
  obtain ⟨hx, hb, hml, hown, hts, hr, hlocks, hK, hBs⟩ := id C
  unfold f_X_of_b0 at hf
  refine lv_aload_n hx hb d_X_of_0 rfl (lv_at hl 0 rfl) ?_
  refine lv_iload_n hx hb d_X_of_1 rfl (lv_at hl 1 rfl) ?_
  have ⟨h4, hf⟩ := gd_e hf
  have ⟨x1, w2, h3, hf⟩ := kl_e hf
  refine g_kr0 (g_rV (As := [.int a1]) (rest := []) hx hb hml hown hts hK hR hS (c_X_payerAt l D cA oc B N a0 a1 w h3) I_X_payerAt m_374 mp_0 (gRecv hK hR (ci := 11) rfl h4) rfl rfl (Nat.le_of_ble_eq_true rfl) hl.1 ⟨Nat.le_of_ble_eq_true rfl, Nat.le_of_ble_eq_true rfl⟩ ⟨Nat.le_of_ble_eq_true rfl, Nat.le_of_ble_eq_true rfl⟩ d_X_of_2) hS (fun H locs hR hS => ?_)
  rcases x1 with _ | x5
  · have hf := nr_n hf
    refine lv_astore_nN (lv' := [(3, .null), (0, .ref (B + a0)), (1, .int a1), (2, .int a2)]) hx hb d_X_of_5 rfl hl (by decide) rfl (fun ls hl => ?_)
    refine lv_aload_nN hx hb d_X_of_6 rfl (lv_at hl 0 rfl) ?_
    refine lv_ifnonnullN hx hb d_X_of_7 ?_
    refine lv_iconst (v := (-1)) hx hb d_X_of_10 (by decide) ?_
    exact g_iret hx hb hr hlocks hR hS hf rfl d_X_of_11
  have hf := nr_s hf
  refine lv_astore_n (lv' := [(3, .ref (B + x5)), (0, .ref (B + a0)), (1, .int a1), (2, .int a2)]) hx hb d_X_of_5 rfl hl (by decide) rfl (fun ls hl => ?_)
  refine lv_aload_n hx hb d_X_of_6 rfl (lv_at hl 0 rfl) ?_
  refine lv_ifnonnull (tgt := 12) hx hb d_X_of_7 (by decide) ?_
  refine lv_iload_n hx hb d_X_of_12 rfl (lv_at hl 3 rfl) ?_
  refine lv_bipush (v := 10) hx hb d_X_of_13 (by decide) ?_
  refine lv_isub hx hb d_X_of_15 ?_
  refine g_nI hf (fun x7 hf => ?_)
  have ⟨x8, w9, h10, hf⟩ := kl_e hf
  refine g_ki0 (g_rS (As := [.int x7]) (rest := []) hx hb hml hown hts hK hR hS (c_X_isSort l D cA oc B N x7 w2 h10) I_X_isSort m_378 rfl rfl (Nat.le_of_ble_eq_true rfl) hl.1 ⟨Nat.le_of_ble_eq_true rfl, Nat.le_of_ble_eq_true rfl⟩ ⟨Nat.le_of_ble_eq_true rfl, Nat.le_of_ble_eq_true rfl⟩ d_X_of_16) hS (fun H locs hR hS => ?_)
  refine lv_if_eq (tgt := 37) hx hb d_X_of_19 (by decide) (fun hc => ?_) (fun hc => ?_)
  · have hf := cd_t hc hf
    refine lv_iload_n hx hb d_X_of_37 rfl (lv_at hl 3 rfl) ?_
    refine lv_bipush (v := 20) hx hb d_X_of_38 (by decide) ?_
    refine lv_isub hx hb d_X_of_40 ?_
    refine g_nI hf (fun x11 hf => ?_)
    have ⟨x12, w13, h14, hf⟩ := kl_e hf
    refine g_ki0 (g_rS (As := [.int x11]) (rest := []) hx hb hml hown hts hK hR hS (c_X_isSort l D cA oc B N x11 w9 h14) I_X_isSort m_378 rfl rfl (Nat.le_of_ble_eq_true rfl) hl.1 ⟨Nat.le_of_ble_eq_true rfl, Nat.le_of_ble_eq_true rfl⟩ ⟨Nat.le_of_ble_eq_true rfl, Nat.le_of_ble_eq_true rfl⟩ d_X_of_41) hS (fun H locs hR hS => ?_)
    refine lv_if_eq (tgt := 67) hx hb d_X_of_44 (by decide) (fun hc => ?_) (fun hc => ?_)
    · have hf := cd_t hc hf
      refine lv_iload_n hx hb d_X_of_67 rfl (lv_at hl 3 rfl) ?_
      by_cases hc15 : a2 = 0
      · refine lv_tableIn (off := 36) (tgt := 104) hx hb d_X_of_68 (by rw [hc15]; decide) (by rw [hc15]; decide) (by rw [hc15]; rfl) (by decide) ?_
        have hf := cd_t hc15 hf
        refine lv_aload_n hx hb d_X_of_104 rfl (lv_at hl 0 rfl) ?_
        have ⟨h16, hf⟩ := gd_e hf
        refine g_getI hx hb hts hown hK hR (flP_X_111 _ h16) (payv h16) rfl d_X_of_105 ?_
        refine g_nI hf (fun x17 hf => ?_)
        exact g_iret hx hb hr hlocks hR hS hf rfl d_X_of_108
      have hf := cd_f hc15 hf
      by_cases hc18 : a2 = 1
      · refine lv_tableIn (off := 41) (tgt := 109) hx hb d_X_of_68 (by rw [hc18]; decide) (by rw [hc18]; decide) (by rw [hc18]; rfl) (by decide) ?_
        have hf := cd_t hc18 hf
        refine lv_aload_n hx hb d_X_of_109 rfl (lv_at hl 0 rfl) ?_
        have ⟨h19, hf⟩ := gd_e hf
        refine g_getI hx hb hts hown hK hR (flP_X_116 _ h19) (payv h19) rfl d_X_of_110 ?_
        refine g_nI hf (fun x20 hf => ?_)
        exact g_iret hx hb hr hlocks hR hS hf rfl d_X_of_113
      have hf := cd_f hc18 hf
      by_cases hc21 : a2 = 2
      · refine lv_tableIn (off := 46) (tgt := 114) hx hb d_X_of_68 (by rw [hc21]; decide) (by rw [hc21]; decide) (by rw [hc21]; rfl) (by decide) ?_
        have hf := cd_t hc21 hf
        refine lv_aload_n hx hb d_X_of_114 rfl (lv_at hl 1 rfl) ?_
        have ⟨h22, hf⟩ := gd_e hf
        have ⟨x23, h24, hf⟩ := rr_e hf
        refine g_getR hx hb hts hown hK hR fl_X_23 (fun _ => rfl) h22 h24 d_X_of_115 ?_
        have ⟨h25, hf⟩ := gd_e hf
        have ⟨x26, h27, hf⟩ := rr_e hf
        refine g_getR hx hb hts hown hK hR fl_X_119 (fun _ => rfl) h25 h27 d_X_of_118 ?_
        refine lv_iload_n hx hb d_X_of_121 rfl (lv_at hl 2 rfl) ?_
        have ⟨h28, hf⟩ := gd_e hf
        have ⟨h29, hf⟩ := gd_e hf
        refine g_iald hx hb hK hR h28 h29 d_X_of_122 ?_
        refine g_nI hf (fun x30 hf => ?_)
        exact g_iret hx hb hr hlocks hR hS hf rfl d_X_of_123
      have hf := cd_f hc21 hf
      by_cases hc31 : a2 = 3
      · refine lv_tableIn (off := 56) (tgt := 124) hx hb d_X_of_68 (by rw [hc31]; decide) (by rw [hc31]; decide) (by rw [hc31]; rfl) (by decide) ?_
        have hf := cd_t hc31 hf
        refine lv_aload_n hx hb d_X_of_124 rfl (lv_at hl 1 rfl) ?_
        have ⟨h32, hf⟩ := gd_e hf
        have ⟨x33, h34, hf⟩ := rr_e hf
        refine g_getR hx hb hts hown hK hR fl_X_23 (fun _ => rfl) h32 h34 d_X_of_125 ?_
        refine lv_iload_n hx hb d_X_of_128 rfl (lv_at hl 2 rfl) ?_
        have ⟨h38, hf⟩ := gd_e hf
        have ⟨x35, w36, h37, hf⟩ := kl_e hf
        refine g_ki0 (g_rV (As := [.int a1]) (rest := []) hx hb hml hown hts hK hR hS (c_Wo_weight l D cA oc B N x33 a1 w13 h37) I_Wo_weight m_403 m_405 (gRecv hK hR (ci := 9) rfl h38) rfl rfl (Nat.le_of_ble_eq_true rfl) hl.1 ⟨Nat.le_of_ble_eq_true rfl, Nat.le_of_ble_eq_true rfl⟩ ⟨Nat.le_of_ble_eq_true rfl, Nat.le_of_ble_eq_true rfl⟩ d_X_of_129) hS (fun H locs hR hS => ?_)
        exact g_iret hx hb hr hlocks hR hS hf rfl d_X_of_132
      have hf := cd_f hc31 hf
      by_cases hc39 : a2 = 4
      · refine lv_tableIn (off := 65) (tgt := 133) hx hb d_X_of_68 (by rw [hc39]; decide) (by rw [hc39]; decide) (by rw [hc39]; rfl) (by decide) ?_
        have hf := cd_t hc39 hf
        refine lv_aload_n hx hb d_X_of_133 rfl (lv_at hl 1 rfl) ?_
        have ⟨h40, hf⟩ := gd_e hf
        have ⟨x41, h42, hf⟩ := rr_e hf
        refine g_getR hx hb hts hown hK hR fl_X_23 (fun _ => rfl) h40 h42 d_X_of_134 ?_
        refine lv_iload_n hx hb d_X_of_137 rfl (lv_at hl 2 rfl) ?_
        have ⟨h46, hf⟩ := gd_e hf
        have ⟨x43, w44, h45, hf⟩ := kl_e hf
        refine g_ki0 (g_rV (As := [.int a1]) (rest := []) hx hb hml hown hts hK hR hS (c_Wo_coins l D cA oc B N x41 a1 w13 h45) I_Wo_coins m_407 m_409 (gRecv hK hR (ci := 9) rfl h46) rfl rfl (Nat.le_of_ble_eq_true rfl) hl.1 ⟨Nat.le_of_ble_eq_true rfl, Nat.le_of_ble_eq_true rfl⟩ ⟨Nat.le_of_ble_eq_true rfl, Nat.le_of_ble_eq_true rfl⟩ d_X_of_138) hS (fun H locs hR hS => ?_)
        exact g_iret hx hb hr hlocks hR hS hf rfl d_X_of_141
      have hf := cd_f hc39 hf
      have hout : a2.toInt < 0 ∨ 4 < a2.toInt := by
        have := lv_neT (a := 0) hc15 rfl
        have := lv_neT (a := 1) hc18 rfl
        have := lv_neT (a := 2) hc21 rfl
        have := lv_neT (a := 3) hc31 rfl
        have := lv_neT (a := 4) hc39 rfl
        omega
      refine lv_tableOut (tgt := 142) hx hb d_X_of_68 hout (by decide) ?_
      refine lv_iconst (v := (-1)) hx hb d_X_of_142 (by decide) ?_
      exact g_iret hx hb hr hlocks hR hS hf rfl d_X_of_143
    have hf := cd_f hc hf
    refine lv_aload_n hx hb d_X_of_47 rfl (lv_at hl 1 rfl) ?_
    have ⟨h47, hf⟩ := gd_e hf
    have ⟨x48, h49, hf⟩ := rr_e hf
    refine g_getR hx hb hts hown hK hR fl_X_23 (fun _ => rfl) h47 h49 d_X_of_48 ?_
    have ⟨h50, hf⟩ := gd_e hf
    have ⟨x51, h52, hf⟩ := rr_e hf
    refine g_getR hx hb hts hown hK hR fl_X_104 (fun _ => rfl) h50 h52 d_X_of_51 ?_
    refine lv_aload_n hx hb d_X_of_54 rfl (lv_at hl 1 rfl) ?_
    refine g_getR hx hb hts hown hK hR fl_X_23 (fun _ => rfl) h47 h49 d_X_of_55 ?_
    refine lv_aload_n hx hb d_X_of_58 rfl (lv_at hl 0 rfl) ?_
    refine lv_iload_n hx hb d_X_of_59 rfl (lv_at hl 3 rfl) ?_
    refine lv_bipush (v := 20) hx hb d_X_of_60 (by decide) ?_
    refine lv_isub hx hb d_X_of_62 ?_
    refine g_nI hf (fun x53 hf => ?_)
    have ⟨h57, hf⟩ := gd_e hf
    have ⟨x54, w55, h56, hf⟩ := kl_e hf
    refine g_ki0 (g_rV (As := [.ref (B + x48), .ref (B + x5), .int x53]) (rest := []) hx hb hml hown hts hK hR hS (c_Tn_kept l D cA oc B N x51 x48 x5 x53 w13 h56) I_Tn_kept m_381 m_383 (gRecv hK hR (ci := 7) rfl h57) rfl rfl (Nat.le_of_ble_eq_true rfl) hl.1 ⟨Nat.le_of_ble_eq_true rfl, Nat.le_of_ble_eq_true rfl⟩ ⟨Nat.le_of_ble_eq_true rfl, Nat.le_of_ble_eq_true rfl⟩ d_X_of_63) hS (fun H locs hR hS => ?_)
    exact g_iret hx hb hr hlocks hR hS hf rfl d_X_of_66
  have hf := cd_f hc hf
  refine lv_aload_n hx hb d_X_of_22 rfl (lv_at hl 1 rfl) ?_
  have ⟨h58, hf⟩ := gd_e hf
  have ⟨x59, h60, hf⟩ := rr_e hf
  refine g_getR hx hb hts hown hK hR fl_X_23 (fun _ => rfl) h58 h60 d_X_of_23 ?_
  have ⟨h61, hf⟩ := gd_e hf
  have ⟨x62, h63, hf⟩ := rr_e hf
  refine g_getR hx hb hts hown hK hR fl_X_100 (fun _ => rfl) h61 h63 d_X_of_26 ?_
  refine lv_iload_n hx hb d_X_of_29 rfl (lv_at hl 2 rfl) ?_
  have ⟨h64, hf⟩ := gd_e hf
  have ⟨h65, hf⟩ := gd_e hf
  have ⟨x66, h67, hf⟩ := rr_e hf
  refine g_aald hx hb hK hR (by decide) rfl (fun _ _ => rfl) h64 h65 h67 d_X_of_30 ?_
  refine lv_iload_n hx hb d_X_of_31 rfl (lv_at hl 3 rfl) ?_
  refine lv_bipush (v := 10) hx hb d_X_of_32 (by decide) ?_
  refine lv_isub hx hb d_X_of_34 ?_
  refine g_nI hf (fun x68 hf => ?_)
  have ⟨h69, hf⟩ := gd_e hf
  have ⟨h70, hf⟩ := gd_e hf
  refine g_iald hx hb hK hR h69 h70 d_X_of_35 ?_
  refine g_nI hf (fun x71 hf => ?_)
  exact g_iret hx hb hr hlocks hR hS hf rfl d_X_of_36
theorem c_X_of (l : Launch) (D : va_G) (cA : Nat → ClassId) (oc : gO) (B N : Nat) (a0 : Nat) (a1 : Int32) (a2 : Int32) (w : gW) {wz : gW} {r : Int32} (hf : f_X_of N a0 a1 a2 w = some (r, wz)) : Met l y_X_of (Cond.code y_X_of b_X_of 4 (some .int) :: lw_good) ({ frames := 5, cells := 0, slots := 0, locals := 135 } : Room) (gPre D cA oc B [.ref (B + a0), .int a1, .int a2] w) (gQi D cA B r wz) 0 0 (gA B) := by
  refine Met.ofW (cc := b_X_of) (maxL := 4) (ret := (some .int)) (by decide +kernel) rfl ?_
  intro p e s m args below meth c s₁ Bd hml hv
  obtain ⟨hargs, C, hR⟩ := gC.enter (l := l) rfl Bd hml hv
  subst hargs
  have hl := lv_entry ([.ref (B + a0), .int a1, .int a2]) (n := 4) (Nat.le_of_ble_eq_true rfl)
  rw [lg_entry_eq]
  generalize (lg_sl ([.ref (B + a0), .int a1, .int a2]) ++ List.replicate (4 - (lg_sl ([.ref (B + a0), .int a1, .int a2])).length) Slot.unset).toArray = ls at hl ⊢
  have hl : lv_has ls 4 [(0, .ref (B + a0)), (1, .int a1), (2, .int a2)] := hl
  exact c_X_of_b0 C a0 a1 a2 w (lv_sub hl [0, 1, 2] rfl) hf hR va_S.rf
theorem d_X_exchange_0 : decode b_X_exchange 0 = .ok (.iload_n 2, 1) := by decide +kernel
theorem d_X_exchange_1 : decode b_X_exchange 1 = .ok (.ifCond .lt 9, 3) := by decide +kernel
theorem d_X_exchange_4 : decode b_X_exchange 4 = .ok (.iload_n 2, 1) := by decide +kernel
theorem d_X_exchange_5 : decode b_X_exchange 5 = .ok (.bipush 99, 2) := by decide +kernel
theorem d_X_exchange_7 : decode b_X_exchange 7 = .ok (.if_icmp .le 6, 3) := by decide +kernel
theorem d_X_exchange_10 : decode b_X_exchange 10 = .ok (.bipush (-2), 2) := by decide +kernel
theorem d_X_exchange_12 : decode b_X_exchange 12 = .ok (.ireturn, 1) := by decide +kernel
theorem d_X_exchange_13 : decode b_X_exchange 13 = .ok (.aload_n 0, 1) := by decide +kernel
theorem d_X_exchange_14 : decode b_X_exchange 14 = .ok (.iload_n 1, 1) := by decide +kernel
theorem d_X_exchange_15 : decode b_X_exchange 15 = .ok (.iaload, 1) := by decide +kernel
theorem d_X_exchange_16 : decode b_X_exchange 16 = .ok (.istore_n 3, 1) := by decide +kernel
theorem d_X_exchange_17 : decode b_X_exchange 17 = .ok (.aload_n 0, 1) := by decide +kernel
theorem d_X_exchange_18 : decode b_X_exchange 18 = .ok (.iload_n 1, 1) := by decide +kernel
theorem d_X_exchange_19 : decode b_X_exchange 19 = .ok (.iload_n 2, 1) := by decide +kernel
theorem d_X_exchange_20 : decode b_X_exchange 20 = .ok (.iastore, 1) := by decide +kernel
theorem d_X_exchange_21 : decode b_X_exchange 21 = .ok (.iload_n 3, 1) := by decide +kernel
theorem d_X_exchange_22 : decode b_X_exchange 22 = .ok (.ireturn, 1) := by decide +kernel
set_option maxRecDepth 20000 in
theorem c_X_exchange_b0 {r : Int32} {wz : gW} (C : gC p s m args meth c "RidCoppers" b_X_exchange 4 (some .int) D cA oc B) (a0 : Nat) (a1 : Int32) (a2 : Int32) (w : gW) {ls : Array Slot} {H : Heap} {locs : List Loc} (hl : lv_has ls 4 [(0, .ref (B + a0)), (1, .int a1), (2, .int a2)]) (hf : f_X_exchange_b0 N a0 a1 a2 w = some (r, wz)) (hR : gRep D cA B w H) (hS : va_S (gA B) s.heap H locs) : W p l e ({ frames := 1, cells := 0, slots := 0, locals := 40 } : Room) s m args below meth c H locs 0 0 (MQ below (gQi D cA B r wz) args s 0 0 (gA B)) (F0 m 0 ls []) := by
  obtain ⟨hx, hb, hml, hown, hts, hr, hlocks, hK, hBs⟩ := id C
  unfold f_X_exchange_b0 at hf
  refine lv_iload_n hx hb d_X_exchange_0 rfl (lv_at hl 2 rfl) ?_
  refine lv_if_lt (tgt := 10) hx hb d_X_exchange_1 (by decide) (fun hc => ?_) (fun hc => ?_)
  · have hf := cd_t hc hf
    refine lv_bipush (v := (-2)) hx hb d_X_exchange_10 (by decide) ?_
    exact g_iret hx hb hr hlocks hR hS hf rfl d_X_exchange_12
  have hf := cd_f hc hf
  refine lv_iload_n hx hb d_X_exchange_4 rfl (lv_at hl 2 rfl) ?_
  refine lv_bipush (v := 99) hx hb d_X_exchange_5 (by decide) ?_
  refine lv_icmp_le (tgt := 13) hx hb d_X_exchange_7 (by decide) (fun hc => ?_) (fun hc => ?_)
  · have hf := cd_t hc hf
    refine lv_aload_n hx hb d_X_exchange_13 rfl (lv_at hl 0 rfl) ?_
    refine lv_iload_n hx hb d_X_exchange_14 rfl (lv_at hl 1 rfl) ?_
    have ⟨h1, hf⟩ := gd_e hf
    have ⟨h2, hf⟩ := gd_e hf
    refine g_iald hx hb hK hR h1 h2 d_X_exchange_15 ?_
    refine g_nI hf (fun x3 hf => ?_)
    refine lv_istore_n (lv' := [(3, .int x3), (0, .ref (B + a0)), (1, .int a1), (2, .int a2)]) hx hb d_X_exchange_16 rfl hl (by decide) rfl (fun ls hl => ?_)
    refine lv_aload_n hx hb d_X_exchange_17 rfl (lv_at hl 1 rfl) ?_
    refine lv_iload_n hx hb d_X_exchange_18 rfl (lv_at hl 2 rfl) ?_
    refine lv_iload_n hx hb d_X_exchange_19 rfl (lv_at hl 3 rfl) ?_
    refine g_iast hx hb hK hR hS h1 h2 d_X_exchange_20 (fun H locs hR hS => ?_)
    refine g_nW hf hR (fun w4 hf hR => ?_)
    refine lv_iload_n hx hb d_X_exchange_21 rfl (lv_at hl 0 rfl) ?_
    exact g_iret hx hb hr hlocks hR hS hf rfl d_X_exchange_22
  have hf := cd_f hc hf
  refine lv_bipush (v := (-2)) hx hb d_X_exchange_10 (by decide) ?_
  exact g_iret hx hb hr hlocks hR hS hf rfl d_X_exchange_12
theorem c_X_exchange (l : Launch) (D : va_G) (cA : Nat → ClassId) (oc : gO) (B N : Nat) (a0 : Nat) (a1 : Int32) (a2 : Int32) (w : gW) {wz : gW} {r : Int32} (hf : f_X_exchange N a0 a1 a2 w = some (r, wz)) : Met l y_X_exchange (Cond.code y_X_exchange b_X_exchange 4 (some .int) :: lw_good) ({ frames := 1, cells := 0, slots := 0, locals := 40 } : Room) (gPre D cA oc B [.ref (B + a0), .int a1, .int a2] w) (gQi D cA B r wz) 0 0 (gA B) := by
  refine Met.ofW (cc := b_X_exchange) (maxL := 4) (ret := (some .int)) (by decide +kernel) rfl ?_
  intro p e s m args below meth c s₁ Bd hml hv
  obtain ⟨hargs, C, hR⟩ := gC.enter (l := l) rfl Bd hml hv
  subst hargs
  have hl := lv_entry ([.ref (B + a0), .int a1, .int a2]) (n := 4) (Nat.le_of_ble_eq_true rfl)
  rw [lg_entry_eq]
  generalize (lg_sl ([.ref (B + a0), .int a1, .int a2]) ++ List.replicate (4 - (lg_sl ([.ref (B + a0), .int a1, .int a2])).length) Slot.unset).toArray = ls at hl ⊢
  have hl : lv_has ls 4 [(0, .ref (B + a0)), (1, .int a1), (2, .int a2)] := hl
  exact c_X_exchange_b0 C a0 a1 a2 w (lv_sub hl [0, 1, 2] rfl) hf hR va_S.rf
theorem d_X_purse_0 : decode b_X_purse 0 = .ok (.aload_n 0, 1) := by decide +kernel
theorem d_X_purse_1 : decode b_X_purse 1 = .ok (.iload_n 1, 1) := by decide +kernel
theorem d_X_purse_2 : decode b_X_purse 2 = .ok (.invokevirtual 92, 3) := by decide +kernel
theorem d_X_purse_5 : decode b_X_purse 5 = .ok (.ifnull 10, 3) := by decide +kernel
theorem d_X_purse_8 : decode b_X_purse 8 = .ok (.iload_n 2, 1) := by decide +kernel
theorem d_X_purse_9 : decode b_X_purse 9 = .ok (.invokestatic 96, 3) := by decide +kernel
theorem d_X_purse_12 : decode b_X_purse 12 = .ok (.ifCond .ne 5, 3) := by decide +kernel
theorem d_X_purse_15 : decode b_X_purse 15 = .ok (.iconst (-1), 1) := by decide +kernel
theorem d_X_purse_16 : decode b_X_purse 16 = .ok (.ireturn, 1) := by decide +kernel
theorem d_X_purse_17 : decode b_X_purse 17 = .ok (.aload_n 0, 1) := by decide +kernel
theorem d_X_purse_18 : decode b_X_purse 18 = .ok (.getfield 23, 3) := by decide +kernel
theorem d_X_purse_21 : decode b_X_purse 21 = .ok (.getfield 100, 3) := by decide +kernel
theorem d_X_purse_24 : decode b_X_purse 24 = .ok (.iload_n 1, 1) := by decide +kernel
theorem d_X_purse_25 : decode b_X_purse 25 = .ok (.aaload, 1) := by decide +kernel
theorem d_X_purse_26 : decode b_X_purse 26 = .ok (.iload_n 2, 1) := by decide +kernel
theorem d_X_purse_27 : decode b_X_purse 27 = .ok (.iload_n 3, 1) := by decide +kernel
theorem d_X_purse_28 : decode b_X_purse 28 = .ok (.invokestatic 129, 3) := by decide +kernel
theorem d_X_purse_31 : decode b_X_purse 31 = .ok (.ireturn, 1) := by decide +kernel
set_option maxRecDepth 20000 in
theorem c_X_purse_b0 {r : Int32} {wz : gW} (C : gC p s m args meth c "RidCoppers" b_X_purse 4 (some .int) D cA oc B) (a0 : Nat) (a1 : Int32) (a2 : Int32) (a3 : Int32) (w : gW) {ls : Array Slot} {H : Heap} {locs : List Loc} (hl : lv_has ls 4 [(0, .ref (B + a0)), (1, .int a1), (2, .int a2), (3, .int a3)]) (hf : f_X_purse_b0 N a0 a1 a2 a3 w = some (r, wz)) (hR : gRep D cA B w H) (hS : va_S (gA B) s.heap H locs) : W p l e ({ frames := 2, cells := 0, slots := 0, locals := 63 } : Room) s m args below meth c H locs 0 0 (MQ below (gQi D cA B r wz) args s 0 0 (gA B)) (F0 m 0 ls []) := by
  obtain ⟨hx, hb, hml, hown, hts, hr, hlocks, hK, hBs⟩ := id C
  unfold f_X_purse_b0 at hf
  refine lv_aload_n hx hb d_X_purse_0 rfl (lv_at hl 0 rfl) ?_
  refine lv_iload_n hx hb d_X_purse_1 rfl (lv_at hl 1 rfl) ?_
  have ⟨h4, hf⟩ := gd_e hf
  have ⟨x1, w2, h3, hf⟩ := kl_e hf
  refine g_kr0 (g_rV (As := [.int a1]) (rest := []) hx hb hml hown hts hK hR hS (c_X_payerAt l D cA oc B N a0 a1 w h3) I_X_payerAt m_374 mp_0 (gRecv hK hR (ci := 11) rfl h4) rfl rfl (Nat.le_of_ble_eq_true rfl) hl.1 ⟨Nat.le_of_ble_eq_true rfl, Nat.le_of_ble_eq_true rfl⟩ ⟨Nat.le_of_ble_eq_true rfl, Nat.le_of_ble_eq_true rfl⟩ d_X_purse_2) hS (fun H locs hR hS => ?_)
  rcases x1 with _ | x5
  · have hf := nr_n hf
    refine lv_ifnullN (tgt := 15) hx hb d_X_purse_5 (by decide) ?_
    refine lv_iconst (v := (-1)) hx hb d_X_purse_15 (by decide) ?_
    exact g_iret hx hb hr hlocks hR hS hf rfl d_X_purse_16
  have hf := nr_s hf
  refine lv_ifnull hx hb d_X_purse_5 ?_
  refine lv_iload_n hx hb d_X_purse_8 rfl (lv_at hl 2 rfl) ?_
  have ⟨x7, w8, h9, hf⟩ := kl_e hf
  refine g_ki0 (g_rS (As := [.int a2]) (rest := []) hx hb hml hown hts hK hR hS (c_X_isSort l D cA oc B N a2 w2 h9) I_X_isSort m_378 rfl rfl (Nat.le_of_ble_eq_true rfl) hl.1 ⟨Nat.le_of_ble_eq_true rfl, Nat.le_of_ble_eq_true rfl⟩ ⟨Nat.le_of_ble_eq_true rfl, Nat.le_of_ble_eq_true rfl⟩ d_X_purse_9) hS (fun H locs hR hS => ?_)
  refine lv_if_ne (tgt := 17) hx hb d_X_purse_12 (by decide) (fun hc => ?_) (fun hc => ?_)
  · have hf := cd_f hc hf
    refine lv_aload_n hx hb d_X_purse_17 rfl (lv_at hl 0 rfl) ?_
    have ⟨h10, hf⟩ := gd_e hf
    have ⟨x11, h12, hf⟩ := rr_e hf
    refine g_getR hx hb hts hown hK hR fl_X_23 (fun _ => rfl) h10 h12 d_X_purse_18 ?_
    have ⟨h13, hf⟩ := gd_e hf
    have ⟨x14, h15, hf⟩ := rr_e hf
    refine g_getR hx hb hts hown hK hR fl_X_100 (fun _ => rfl) h13 h15 d_X_purse_21 ?_
    refine lv_iload_n hx hb d_X_purse_24 rfl (lv_at hl 1 rfl) ?_
    have ⟨h16, hf⟩ := gd_e hf
    have ⟨h17, hf⟩ := gd_e hf
    have ⟨x18, h19, hf⟩ := rr_e hf
    refine g_aald hx hb hK hR (by decide) rfl (fun _ _ => rfl) h16 h17 h19 d_X_purse_25 ?_
    refine lv_iload_n hx hb d_X_purse_26 rfl (lv_at hl 2 rfl) ?_
    refine lv_iload_n hx hb d_X_purse_27 rfl (lv_at hl 3 rfl) ?_
    have ⟨x20, w21, h22, hf⟩ := kl_e hf
    refine g_ki0 (g_rS (As := [.ref (B + x18), .int a2, .int a3]) (rest := []) hx hb hml hown hts hK hR hS (c_X_exchange l D cA oc B N x18 a2 a3 w8 h22) I_X_exchange m_415 rfl rfl (Nat.le_of_ble_eq_true rfl) hl.1 ⟨Nat.le_of_ble_eq_true rfl, Nat.le_of_ble_eq_true rfl⟩ ⟨Nat.le_of_ble_eq_true rfl, Nat.le_of_ble_eq_true rfl⟩ d_X_purse_28) hS (fun H locs hR hS => ?_)
    exact g_iret hx hb hr hlocks hR hS hf rfl d_X_purse_31
  have hf := cd_t hc hf
  refine lv_iconst (v := (-1)) hx hb d_X_purse_15 (by decide) ?_
  exact g_iret hx hb hr hlocks hR hS hf rfl d_X_purse_16
theorem c_X_purse (l : Launch) (D : va_G) (cA : Nat → ClassId) (oc : gO) (B N : Nat) (a0 : Nat) (a1 : Int32) (a2 : Int32) (a3 : Int32) (w : gW) {wz : gW} {r : Int32} (hf : f_X_purse N a0 a1 a2 a3 w = some (r, wz)) : Met l y_X_purse (Cond.code y_X_purse b_X_purse 4 (some .int) :: lw_good) ({ frames := 2, cells := 0, slots := 0, locals := 63 } : Room) (gPre D cA oc B [.ref (B + a0), .int a1, .int a2, .int a3] w) (gQi D cA B r wz) 0 0 (gA B) := by
  refine Met.ofW (cc := b_X_purse) (maxL := 4) (ret := (some .int)) (by decide +kernel) rfl ?_
  intro p e s m args below meth c s₁ Bd hml hv
  obtain ⟨hargs, C, hR⟩ := gC.enter (l := l) rfl Bd hml hv
  subst hargs
  have hl := lv_entry ([.ref (B + a0), .int a1, .int a2, .int a3]) (n := 4) (Nat.le_of_ble_eq_true rfl)
  rw [lg_entry_eq]
  generalize (lg_sl ([.ref (B + a0), .int a1, .int a2, .int a3]) ++ List.replicate (4 - (lg_sl ([.ref (B + a0), .int a1, .int a2, .int a3])).length) Slot.unset).toArray = ls at hl ⊢
  have hl : lv_has ls 4 [(0, .ref (B + a0)), (1, .int a1), (2, .int a2), (3, .int a3)] := hl
  exact c_X_purse_b0 C a0 a1 a2 a3 w (lv_sub hl [0, 1, 2, 3] rfl) hf hR va_S.rf
theorem d_X_till_0 : decode b_X_till 0 = .ok (.iload_n 1, 1) := by decide +kernel
theorem d_X_till_1 : decode b_X_till 1 = .ok (.invokestatic 96, 3) := by decide +kernel
theorem d_X_till_4 : decode b_X_till 4 = .ok (.ifCond .ne 5, 3) := by decide +kernel
theorem d_X_till_7 : decode b_X_till 7 = .ok (.iconst (-1), 1) := by decide +kernel
theorem d_X_till_8 : decode b_X_till 8 = .ok (.ireturn, 1) := by decide +kernel
theorem d_X_till_9 : decode b_X_till 9 = .ok (.aload_n 0, 1) := by decide +kernel
theorem d_X_till_10 : decode b_X_till 10 = .ok (.getfield 23, 3) := by decide +kernel
theorem d_X_till_13 : decode b_X_till 13 = .ok (.getfield 78, 3) := by decide +kernel
theorem d_X_till_16 : decode b_X_till 16 = .ok (.iload_n 1, 1) := by decide +kernel
theorem d_X_till_17 : decode b_X_till 17 = .ok (.iload_n 2, 1) := by decide +kernel
theorem d_X_till_18 : decode b_X_till 18 = .ok (.invokestatic 129, 3) := by decide +kernel
theorem d_X_till_21 : decode b_X_till 21 = .ok (.ireturn, 1) := by decide +kernel
set_option maxRecDepth 20000 in
theorem c_X_till_b0 {r : Int32} {wz : gW} (C : gC p s m args meth c "RidCoppers" b_X_till 3 (some .int) D cA oc B) (a0 : Nat) (a1 : Int32) (a2 : Int32) (w : gW) {ls : Array Slot} {H : Heap} {locs : List Loc} (hl : lv_has ls 3 [(0, .ref (B + a0)), (1, .int a1), (2, .int a2)]) (hf : f_X_till_b0 N a0 a1 a2 w = some (r, wz)) (hR : gRep D cA B w H) (hS : va_S (gA B) s.heap H locs) : W p l e ({ frames := 2, cells := 0, slots := 0, locals := 63 } : Room) s m args below meth c H locs 0 0 (MQ below (gQi D cA B r wz) args s 0 0 (gA B)) (F0 m 0 ls []) := by
  obtain ⟨hx, hb, hml, hown, hts, hr, hlocks, hK, hBs⟩ := id C
  unfold f_X_till_b0 at hf
  refine lv_iload_n hx hb d_X_till_0 rfl (lv_at hl 1 rfl) ?_
  have ⟨x1, w2, h3, hf⟩ := kl_e hf
  refine g_ki0 (g_rS (As := [.int a1]) (rest := []) hx hb hml hown hts hK hR hS (c_X_isSort l D cA oc B N a1 w h3) I_X_isSort m_378 rfl rfl (Nat.le_of_ble_eq_true rfl) hl.1 ⟨Nat.le_of_ble_eq_true rfl, Nat.le_of_ble_eq_true rfl⟩ ⟨Nat.le_of_ble_eq_true rfl, Nat.le_of_ble_eq_true rfl⟩ d_X_till_1) hS (fun H locs hR hS => ?_)
  refine lv_if_ne (tgt := 9) hx hb d_X_till_4 (by decide) (fun hc => ?_) (fun hc => ?_)
  · have hf := cd_f hc hf
    refine lv_aload_n hx hb d_X_till_9 rfl (lv_at hl 0 rfl) ?_
    have ⟨h4, hf⟩ := gd_e hf
    have ⟨x5, h6, hf⟩ := rr_e hf
    refine g_getR hx hb hts hown hK hR fl_X_23 (fun _ => rfl) h4 h6 d_X_till_10 ?_
    have ⟨h7, hf⟩ := gd_e hf
    have ⟨x8, h9, hf⟩ := rr_e hf
    refine g_getR hx hb hts hown hK hR fl_X_78 (fun _ => rfl) h7 h9 d_X_till_13 ?_
    refine lv_iload_n hx hb d_X_till_16 rfl (lv_at hl 1 rfl) ?_
    refine lv_iload_n hx hb d_X_till_17 rfl (lv_at hl 2 rfl) ?_
    have ⟨x10, w11, h12, hf⟩ := kl_e hf
    refine g_ki0 (g_rS (As := [.ref (B + x8), .int a1, .int a2]) (rest := []) hx hb hml hown hts hK hR hS (c_X_exchange l D cA oc B N x8 a1 a2 w2 h12) I_X_exchange m_415 rfl rfl (Nat.le_of_ble_eq_true rfl) hl.1 ⟨Nat.le_of_ble_eq_true rfl, Nat.le_of_ble_eq_true rfl⟩ ⟨Nat.le_of_ble_eq_true rfl, Nat.le_of_ble_eq_true rfl⟩ d_X_till_18) hS (fun H locs hR hS => ?_)
    exact g_iret hx hb hr hlocks hR hS hf rfl d_X_till_21
  have hf := cd_t hc hf
  refine lv_iconst (v := (-1)) hx hb d_X_till_7 (by decide) ?_
  exact g_iret hx hb hr hlocks hR hS hf rfl d_X_till_8
theorem c_X_till (l : Launch) (D : va_G) (cA : Nat → ClassId) (oc : gO) (B N : Nat) (a0 : Nat) (a1 : Int32) (a2 : Int32) (w : gW) {wz : gW} {r : Int32} (hf : f_X_till N a0 a1 a2 w = some (r, wz)) : Met l y_X_till (Cond.code y_X_till b_X_till 3 (some .int) :: lw_good) ({ frames := 2, cells := 0, slots := 0, locals := 63 } : Room) (gPre D cA oc B [.ref (B + a0), .int a1, .int a2] w) (gQi D cA B r wz) 0 0 (gA B) := by
  refine Met.ofW (cc := b_X_till) (maxL := 3) (ret := (some .int)) (by decide +kernel) rfl ?_
  intro p e s m args below meth c s₁ Bd hml hv
  obtain ⟨hargs, C, hR⟩ := gC.enter (l := l) rfl Bd hml hv
  subst hargs
  have hl := lv_entry ([.ref (B + a0), .int a1, .int a2]) (n := 3) (Nat.le_of_ble_eq_true rfl)
  rw [lg_entry_eq]
  generalize (lg_sl ([.ref (B + a0), .int a1, .int a2]) ++ List.replicate (3 - (lg_sl ([.ref (B + a0), .int a1, .int a2])).length) Slot.unset).toArray = ls at hl ⊢
  have hl : lv_has ls 3 [(0, .ref (B + a0)), (1, .int a1), (2, .int a2)] := hl
  exact c_X_till_b0 C a0 a1 a2 w (lv_sub hl [0, 1, 2] rfl) hf hR va_S.rf
theorem d_X_row_0 : decode b_X_row 0 = .ok (.aload_n 0, 1) := by decide +kernel
theorem d_X_row_1 : decode b_X_row 1 = .ok (.iload_n 1, 1) := by decide +kernel
theorem d_X_row_2 : decode b_X_row 2 = .ok (.invokevirtual 92, 3) := by decide +kernel
theorem d_X_row_5 : decode b_X_row 5 = .ok (.astore 4, 2) := by decide +kernel
theorem d_X_row_7 : decode b_X_row 7 = .ok (.aload 4, 2) := by decide +kernel
theorem d_X_row_9 : decode b_X_row 9 = .ok (.ifnull 12, 3) := by decide +kernel
theorem d_X_row_12 : decode b_X_row 12 = .ok (.iload_n 2, 1) := by decide +kernel
theorem d_X_row_13 : decode b_X_row 13 = .ok (.ifCond .lt 8, 3) := by decide +kernel
theorem d_X_row_16 : decode b_X_row 16 = .ok (.iload_n 2, 1) := by decide +kernel
theorem d_X_row_17 : decode b_X_row 17 = .ok (.iconst 4, 1) := by decide +kernel
theorem d_X_row_18 : decode b_X_row 18 = .ok (.if_icmp .lt 5, 3) := by decide +kernel
theorem d_X_row_21 : decode b_X_row 21 = .ok (.iconst (-1), 1) := by decide +kernel
theorem d_X_row_22 : decode b_X_row 22 = .ok (.ireturn, 1) := by decide +kernel
theorem d_X_row_23 : decode b_X_row 23 = .ok (.iload_n 3, 1) := by decide +kernel
theorem d_X_row_24 : decode b_X_row 24 = .ok (.invokestatic 96, 3) := by decide +kernel
theorem d_X_row_27 : decode b_X_row 27 = .ok (.ifCond .ne 6, 3) := by decide +kernel
theorem d_X_row_30 : decode b_X_row 30 = .ok (.bipush (-2), 2) := by decide +kernel
theorem d_X_row_32 : decode b_X_row 32 = .ok (.ireturn, 1) := by decide +kernel
theorem d_X_row_33 : decode b_X_row 33 = .ok (.aload 4, 2) := by decide +kernel
theorem d_X_row_35 : decode b_X_row 35 = .ok (.getfield 111, 3) := by decide +kernel
theorem d_X_row_38 : decode b_X_row 38 = .ok (.bipush 6, 2) := by decide +kernel
theorem d_X_row_40 : decode b_X_row 40 = .ok (.if_icmp .eq 6, 3) := by decide +kernel
theorem d_X_row_43 : decode b_X_row 43 = .ok (.bipush (-3), 2) := by decide +kernel
theorem d_X_row_45 : decode b_X_row 45 = .ok (.ireturn, 1) := by decide +kernel
theorem d_X_row_46 : decode b_X_row 46 = .ok (.aload_n 0, 1) := by decide +kernel
theorem d_X_row_47 : decode b_X_row 47 = .ok (.getfield 23, 3) := by decide +kernel
theorem d_X_row_50 : decode b_X_row 50 = .ok (.getfield 133, 3) := by decide +kernel
theorem d_X_row_53 : decode b_X_row 53 = .ok (.iload_n 1, 1) := by decide +kernel
theorem d_X_row_54 : decode b_X_row 54 = .ok (.aaload, 1) := by decide +kernel
theorem d_X_row_55 : decode b_X_row 55 = .ok (.iload_n 2, 1) := by decide +kernel
theorem d_X_row_56 : decode b_X_row 56 = .ok (.iaload, 1) := by decide +kernel
theorem d_X_row_57 : decode b_X_row 57 = .ok (.istore 5, 2) := by decide +kernel
theorem d_X_row_59 : decode b_X_row 59 = .ok (.aload_n 0, 1) := by decide +kernel
theorem d_X_row_60 : decode b_X_row 60 = .ok (.getfield 23, 3) := by decide +kernel
theorem d_X_row_63 : decode b_X_row 63 = .ok (.getfield 133, 3) := by decide +kernel
theorem d_X_row_66 : decode b_X_row 66 = .ok (.iload_n 1, 1) := by decide +kernel
theorem d_X_row_67 : decode b_X_row 67 = .ok (.aaload, 1) := by decide +kernel
theorem d_X_row_68 : decode b_X_row 68 = .ok (.iload_n 2, 1) := by decide +kernel
theorem d_X_row_69 : decode b_X_row 69 = .ok (.iload_n 3, 1) := by decide +kernel
theorem d_X_row_70 : decode b_X_row 70 = .ok (.iastore, 1) := by decide +kernel
theorem d_X_row_71 : decode b_X_row 71 = .ok (.iload 5, 2) := by decide +kernel
theorem d_X_row_73 : decode b_X_row 73 = .ok (.ireturn, 1) := by decide +kernel
set_option maxRecDepth 20000 in
theorem c_X_row_b0 {r : Int32} {wz : gW} (C : gC p s m args meth c "RidCoppers" b_X_row 6 (some .int) D cA oc B) (a0 : Nat) (a1 : Int32) (a2 : Int32) (a3 : Int32) (w : gW) {ls : Array Slot} {H : Heap} {locs : List Loc} (hl : lv_has ls 6 [(0, .ref (B + a0)), (1, .int a1), (2, .int a2), (3, .int a3)]) (hf : f_X_row_b0 N a0 a1 a2 a3 w = some (r, wz)) (hR : gRep D cA B w H) (hS : va_S (gA B) s.heap H locs) : W p l e ({ frames := 2, cells := 0, slots := 0, locals := 61 } : Room) s m args below meth c H locs 0 0 (MQ below (gQi D cA B r wz) args s 0 0 (gA B)) (F0 m 0 ls []) := by
  obtain ⟨hx, hb, hml, hown, hts, hr, hlocks, hK, hBs⟩ := id C
  unfold f_X_row_b0 at hf
  refine lv_aload_n hx hb d_X_row_0 rfl (lv_at hl 0 rfl) ?_
  refine lv_iload_n hx hb d_X_row_1 rfl (lv_at hl 1 rfl) ?_
  have ⟨h4, hf⟩ := gd_e hf
  have ⟨x1, w2, h3, hf⟩ := kl_e hf
  refine g_kr0 (g_rV (As := [.int a1]) (rest := []) hx hb hml hown hts hK hR hS (c_X_payerAt l D cA oc B N a0 a1 w h3) I_X_payerAt m_374 mp_0 (gRecv hK hR (ci := 11) rfl h4) rfl rfl (Nat.le_of_ble_eq_true rfl) hl.1 ⟨Nat.le_of_ble_eq_true rfl, Nat.le_of_ble_eq_true rfl⟩ ⟨Nat.le_of_ble_eq_true rfl, Nat.le_of_ble_eq_true rfl⟩ d_X_row_2) hS (fun H locs hR hS => ?_)
  rcases x1 with _ | x5
  · have hf := nr_n hf
    refine lv_astoreN (lv' := [(4, .null), (0, .ref (B + a0)), (1, .int a1), (2, .int a2), (3, .int a3)]) hx hb d_X_row_5 hl (by decide) rfl (fun ls hl => ?_)
    refine lv_aloadN hx hb d_X_row_7 (lv_at hl 0 rfl) ?_
    refine lv_ifnullN (tgt := 21) hx hb d_X_row_9 (by decide) ?_
    refine lv_iconst (v := (-1)) hx hb d_X_row_21 (by decide) ?_
    exact g_iret hx hb hr hlocks hR hS hf rfl d_X_row_22
  have hf := nr_s hf
  refine lv_astore (lv' := [(4, .ref (B + x5)), (0, .ref (B + a0)), (1, .int a1), (2, .int a2), (3, .int a3)]) hx hb d_X_row_5 hl (by decide) rfl (fun ls hl => ?_)
  refine lv_aload hx hb d_X_row_7 (lv_at hl 0 rfl) ?_
  refine lv_ifnull hx hb d_X_row_9 ?_
  refine lv_iload_n hx hb d_X_row_12 rfl (lv_at hl 3 rfl) ?_
  refine lv_if_lt (tgt := 21) hx hb d_X_row_13 (by decide) (fun hc => ?_) (fun hc => ?_)
  · have hf := cd_t hc hf
    refine lv_iconst (v := (-1)) hx hb d_X_row_21 (by decide) ?_
    exact g_iret hx hb hr hlocks hR hS hf rfl d_X_row_22
  have hf := cd_f hc hf
  refine lv_iload_n hx hb d_X_row_16 rfl (lv_at hl 3 rfl) ?_
  refine lv_iconst (v := 4) hx hb d_X_row_17 (by decide) ?_
  refine lv_icmp_lt (tgt := 23) hx hb d_X_row_18 (by decide) (fun hc => ?_) (fun hc => ?_)
  · have hf := cd_t hc hf
    refine lv_iload_n hx hb d_X_row_23 rfl (lv_at hl 4 rfl) ?_
    have ⟨x7, w8, h9, hf⟩ := kl_e hf
    refine g_ki0 (g_rS (As := [.int a3]) (rest := []) hx hb hml hown hts hK hR hS (c_X_isSort l D cA oc B N a3 w2 h9) I_X_isSort m_378 rfl rfl (Nat.le_of_ble_eq_true rfl) hl.1 ⟨Nat.le_of_ble_eq_true rfl, Nat.le_of_ble_eq_true rfl⟩ ⟨Nat.le_of_ble_eq_true rfl, Nat.le_of_ble_eq_true rfl⟩ d_X_row_24) hS (fun H locs hR hS => ?_)
    refine lv_if_ne (tgt := 33) hx hb d_X_row_27 (by decide) (fun hc => ?_) (fun hc => ?_)
    · have hf := cd_f hc hf
      refine lv_aload hx hb d_X_row_33 (lv_at hl 0 rfl) ?_
      have ⟨h10, hf⟩ := gd_e hf
      refine g_getI hx hb hts hown hK hR (flP_X_111 _ h10) (payv h10) rfl d_X_row_35 ?_
      refine g_nI hf (fun x11 hf => ?_)
      refine lv_bipush (v := 6) hx hb d_X_row_38 (by decide) ?_
      refine lv_icmp_eq (tgt := 46) hx hb d_X_row_40 (by decide) (fun hc => ?_) (fun hc => ?_)
      · have hf := cd_t hc hf
        refine lv_aload_n hx hb d_X_row_46 rfl (lv_at hl 1 rfl) ?_
        have ⟨h12, hf⟩ := gd_e hf
        have ⟨x13, h14, hf⟩ := rr_e hf
        refine g_getR hx hb hts hown hK hR fl_X_23 (fun _ => rfl) h12 h14 d_X_row_47 ?_
        have ⟨h15, hf⟩ := gd_e hf
        have ⟨x16, h17, hf⟩ := rr_e hf
        refine g_getR hx hb hts hown hK hR fl_X_133 (fun _ => rfl) h15 h17 d_X_row_50 ?_
        refine lv_iload_n hx hb d_X_row_53 rfl (lv_at hl 2 rfl) ?_
        have ⟨h18, hf⟩ := gd_e hf
        have ⟨h19, hf⟩ := gd_e hf
        have ⟨x20, h21, hf⟩ := rr_e hf
        refine g_aald hx hb hK hR (by decide) rfl (fun _ _ => rfl) h18 h19 h21 d_X_row_54 ?_
        refine lv_iload_n hx hb d_X_row_55 rfl (lv_at hl 3 rfl) ?_
        have ⟨h22, hf⟩ := gd_e hf
        have ⟨h23, hf⟩ := gd_e hf
        refine g_iald hx hb hK hR h22 h23 d_X_row_56 ?_
        refine g_nI hf (fun x24 hf => ?_)
        refine lv_istore (lv' := [(5, .int x24), (4, .ref (B + x5)), (0, .ref (B + a0)), (1, .int a1), (2, .int a2), (3, .int a3)]) hx hb d_X_row_57 hl (by decide) rfl (fun ls hl => ?_)
        refine lv_aload_n hx hb d_X_row_59 rfl (lv_at hl 2 rfl) ?_
        refine g_getR hx hb hts hown hK hR fl_X_23 (fun _ => rfl) h12 h14 d_X_row_60 ?_
        refine g_getR hx hb hts hown hK hR fl_X_133 (fun _ => rfl) h15 h17 d_X_row_63 ?_
        refine lv_iload_n hx hb d_X_row_66 rfl (lv_at hl 3 rfl) ?_
        refine g_aald hx hb hK hR (by decide) rfl (fun _ _ => rfl) h18 h19 h21 d_X_row_67 ?_
        refine lv_iload_n hx hb d_X_row_68 rfl (lv_at hl 4 rfl) ?_
        refine lv_iload_n hx hb d_X_row_69 rfl (lv_at hl 5 rfl) ?_
        refine g_iast hx hb hK hR hS h22 h23 d_X_row_70 (fun H locs hR hS => ?_)
        refine g_nW hf hR (fun w25 hf hR => ?_)
        refine lv_iload hx hb d_X_row_71 (lv_at hl 0 rfl) ?_
        exact g_iret hx hb hr hlocks hR hS hf rfl d_X_row_73
      have hf := cd_f hc hf
      refine lv_bipush (v := (-3)) hx hb d_X_row_43 (by decide) ?_
      exact g_iret hx hb hr hlocks hR hS hf rfl d_X_row_45
    have hf := cd_t hc hf
    refine lv_bipush (v := (-2)) hx hb d_X_row_30 (by decide) ?_
    exact g_iret hx hb hr hlocks hR hS hf rfl d_X_row_32
  have hf := cd_f hc hf
  refine lv_iconst (v := (-1)) hx hb d_X_row_21 (by decide) ?_
  exact g_iret hx hb hr hlocks hR hS hf rfl d_X_row_22
theorem c_X_row (l : Launch) (D : va_G) (cA : Nat → ClassId) (oc : gO) (B N : Nat) (a0 : Nat) (a1 : Int32) (a2 : Int32) (a3 : Int32) (w : gW) {wz : gW} {r : Int32} (hf : f_X_row N a0 a1 a2 a3 w = some (r, wz)) : Met l y_X_row (Cond.code y_X_row b_X_row 6 (some .int) :: lw_good) ({ frames := 2, cells := 0, slots := 0, locals := 61 } : Room) (gPre D cA oc B [.ref (B + a0), .int a1, .int a2, .int a3] w) (gQi D cA B r wz) 0 0 (gA B) := by
  refine Met.ofW (cc := b_X_row) (maxL := 6) (ret := (some .int)) (by decide +kernel) rfl ?_
  intro p e s m args below meth c s₁ Bd hml hv
  obtain ⟨hargs, C, hR⟩ := gC.enter (l := l) rfl Bd hml hv
  subst hargs
  have hl := lv_entry ([.ref (B + a0), .int a1, .int a2, .int a3]) (n := 6) (Nat.le_of_ble_eq_true rfl)
  rw [lg_entry_eq]
  generalize (lg_sl ([.ref (B + a0), .int a1, .int a2, .int a3]) ++ List.replicate (6 - (lg_sl ([.ref (B + a0), .int a1, .int a2, .int a3])).length) Slot.unset).toArray = ls at hl ⊢
  have hl : lv_has ls 6 [(0, .ref (B + a0)), (1, .int a1), (2, .int a2), (3, .int a3)] := hl
  exact c_X_row_b0 C a0 a1 a2 a3 w (lv_sub hl [0, 1, 2, 3] rfl) hf hR va_S.rf
theorem d_X_feed_0 : decode b_X_feed 0 = .ok (.iload_n 1, 1) := by decide +kernel
theorem d_X_feed_1 : decode b_X_feed 1 = .ok (.ifCond .lt 9, 3) := by decide +kernel
theorem d_X_feed_4 : decode b_X_feed 4 = .ok (.iload_n 1, 1) := by decide +kernel
theorem d_X_feed_5 : decode b_X_feed 5 = .ok (.bipush 127, 2) := by decide +kernel
theorem d_X_feed_7 : decode b_X_feed 7 = .ok (.if_icmp .le 6, 3) := by decide +kernel
theorem d_X_feed_10 : decode b_X_feed 10 = .ok (.bipush (-2), 2) := by decide +kernel
theorem d_X_feed_12 : decode b_X_feed 12 = .ok (.ireturn, 1) := by decide +kernel
theorem d_X_feed_13 : decode b_X_feed 13 = .ok (.aload_n 0, 1) := by decide +kernel
theorem d_X_feed_14 : decode b_X_feed 14 = .ok (.getfield 56, 3) := by decide +kernel
theorem d_X_feed_17 : decode b_X_feed 17 = .ok (.bipush 100, 2) := by decide +kernel
theorem d_X_feed_19 : decode b_X_feed 19 = .ok (.if_icmp .lt 6, 3) := by decide +kernel
theorem d_X_feed_22 : decode b_X_feed 22 = .ok (.bipush (-4), 2) := by decide +kernel
theorem d_X_feed_24 : decode b_X_feed 24 = .ok (.ireturn, 1) := by decide +kernel
theorem d_X_feed_25 : decode b_X_feed 25 = .ok (.aload_n 0, 1) := by decide +kernel
theorem d_X_feed_26 : decode b_X_feed 26 = .ok (.getfield 52, 3) := by decide +kernel
theorem d_X_feed_29 : decode b_X_feed 29 = .ok (.aload_n 0, 1) := by decide +kernel
theorem d_X_feed_30 : decode b_X_feed 30 = .ok (.getfield 56, 3) := by decide +kernel
theorem d_X_feed_33 : decode b_X_feed 33 = .ok (.iload_n 1, 1) := by decide +kernel
theorem d_X_feed_34 : decode b_X_feed 34 = .ok (.i2b, 1) := by decide +kernel
theorem d_X_feed_35 : decode b_X_feed 35 = .ok (.bastore, 1) := by decide +kernel
theorem d_X_feed_36 : decode b_X_feed 36 = .ok (.aload_n 0, 1) := by decide +kernel
theorem d_X_feed_37 : decode b_X_feed 37 = .ok (.dup, 1) := by decide +kernel
theorem d_X_feed_38 : decode b_X_feed 38 = .ok (.getfield 56, 3) := by decide +kernel
theorem d_X_feed_41 : decode b_X_feed 41 = .ok (.iconst 1, 1) := by decide +kernel
theorem d_X_feed_42 : decode b_X_feed 42 = .ok (.iadd, 1) := by decide +kernel
theorem d_X_feed_43 : decode b_X_feed 43 = .ok (.putfield 56, 3) := by decide +kernel
theorem d_X_feed_46 : decode b_X_feed 46 = .ok (.aload_n 0, 1) := by decide +kernel
theorem d_X_feed_47 : decode b_X_feed 47 = .ok (.getfield 56, 3) := by decide +kernel
theorem d_X_feed_50 : decode b_X_feed 50 = .ok (.ireturn, 1) := by decide +kernel
set_option maxRecDepth 20000 in
theorem c_X_feed_b0 {r : Int32} {wz : gW} (C : gC p s m args meth c "RidCoppers" b_X_feed 2 (some .int) D cA oc B) (a0 : Nat) (a1 : Int32) (w : gW) {ls : Array Slot} {H : Heap} {locs : List Loc} (hl : lv_has ls 2 [(0, .ref (B + a0)), (1, .int a1)]) (hf : f_X_feed_b0 N a0 a1 w = some (r, wz)) (hR : gRep D cA B w H) (hS : va_S (gA B) s.heap H locs) : W p l e ({ frames := 1, cells := 0, slots := 0, locals := 40 } : Room) s m args below meth c H locs 0 0 (MQ below (gQi D cA B r wz) args s 0 0 (gA B)) (F0 m 0 ls []) := by
  obtain ⟨hx, hb, hml, hown, hts, hr, hlocks, hK, hBs⟩ := id C
  unfold f_X_feed_b0 at hf
  refine lv_iload_n hx hb d_X_feed_0 rfl (lv_at hl 1 rfl) ?_
  refine lv_if_lt (tgt := 10) hx hb d_X_feed_1 (by decide) (fun hc => ?_) (fun hc => ?_)
  · have hf := cd_t hc hf
    refine lv_bipush (v := (-2)) hx hb d_X_feed_10 (by decide) ?_
    exact g_iret hx hb hr hlocks hR hS hf rfl d_X_feed_12
  have hf := cd_f hc hf
  refine lv_iload_n hx hb d_X_feed_4 rfl (lv_at hl 1 rfl) ?_
  refine lv_bipush (v := 127) hx hb d_X_feed_5 (by decide) ?_
  refine lv_icmp_le (tgt := 13) hx hb d_X_feed_7 (by decide) (fun hc => ?_) (fun hc => ?_)
  · have hf := cd_t hc hf
    refine lv_aload_n hx hb d_X_feed_13 rfl (lv_at hl 0 rfl) ?_
    have ⟨h1, hf⟩ := gd_e hf
    refine g_getI hx hb hts hown hK hR fl_X_56 (fun _ => rfl) h1 d_X_feed_14 ?_
    refine g_nI hf (fun x2 hf => ?_)
    refine lv_bipush (v := 100) hx hb d_X_feed_17 (by decide) ?_
    refine lv_icmp_lt (tgt := 25) hx hb d_X_feed_19 (by decide) (fun hc => ?_) (fun hc => ?_)
    · have hf := cd_t hc hf
      refine lv_aload_n hx hb d_X_feed_25 rfl (lv_at hl 0 rfl) ?_
      have ⟨x3, h4, hf⟩ := rr_e hf
      refine g_getR hx hb hts hown hK hR fl_X_52 (fun _ => rfl) h1 h4 d_X_feed_26 ?_
      refine lv_aload_n hx hb d_X_feed_29 rfl (lv_at hl 0 rfl) ?_
      refine g_getI hx hb hts hown hK hR fl_X_56 (fun _ => rfl) h1 d_X_feed_30 ?_
      refine g_nI hf (fun x5 hf => ?_)
      refine lv_iload_n hx hb d_X_feed_33 rfl (lv_at hl 1 rfl) ?_
      refine lv_i2b hx hb d_X_feed_34 rfl ?_
      refine g_nI hf (fun x6 hf => ?_)
      have ⟨h7, hf⟩ := gd_e hf
      have ⟨h8, hf⟩ := gd_e hf
      refine g_bast hx hb hK hR hS h7 h8 d_X_feed_35 (fun H locs hR hS => ?_)
      refine g_nW hf hR (fun w9 hf hR => ?_)
      refine lv_aload_n hx hb d_X_feed_36 rfl (lv_at hl 0 rfl) ?_
      refine lv_dup hx hb d_X_feed_37 rfl ?_
      have ⟨h10, hf⟩ := gd_e hf
      refine g_getI hx hb hts hown hK hR fl_X_56 (fun _ => rfl) h10 d_X_feed_38 ?_
      refine g_nI hf (fun x11 hf => ?_)
      refine lv_iconst (v := 1) hx hb d_X_feed_41 (by decide) ?_
      refine lv_iadd hx hb d_X_feed_42 ?_
      refine g_nI hf (fun x12 hf => ?_)
      refine g_putI hx hb hts hown hK hR hS pf_X_56 (fun _ => rfl) rfl rfl h10 d_X_feed_43 (fun H locs hR hS => ?_)
      refine g_nW hf hR (fun w13 hf hR => ?_)
      refine lv_aload_n hx hb d_X_feed_46 rfl (lv_at hl 0 rfl) ?_
      have ⟨h14, hf⟩ := gd_e hf
      refine g_getI hx hb hts hown hK hR fl_X_56 (fun _ => rfl) h14 d_X_feed_47 ?_
      refine g_nI hf (fun x15 hf => ?_)
      exact g_iret hx hb hr hlocks hR hS hf rfl d_X_feed_50
    have hf := cd_f hc hf
    refine lv_bipush (v := (-4)) hx hb d_X_feed_22 (by decide) ?_
    exact g_iret hx hb hr hlocks hR hS hf rfl d_X_feed_24
  have hf := cd_f hc hf
  refine lv_bipush (v := (-2)) hx hb d_X_feed_10 (by decide) ?_
  exact g_iret hx hb hr hlocks hR hS hf rfl d_X_feed_12
theorem c_X_feed (l : Launch) (D : va_G) (cA : Nat → ClassId) (oc : gO) (B N : Nat) (a0 : Nat) (a1 : Int32) (w : gW) {wz : gW} {r : Int32} (hf : f_X_feed N a0 a1 w = some (r, wz)) : Met l y_X_feed (Cond.code y_X_feed b_X_feed 2 (some .int) :: lw_good) ({ frames := 1, cells := 0, slots := 0, locals := 40 } : Room) (gPre D cA oc B [.ref (B + a0), .int a1] w) (gQi D cA B r wz) 0 0 (gA B) := by
  refine Met.ofW (cc := b_X_feed) (maxL := 2) (ret := (some .int)) (by decide +kernel) rfl ?_
  intro p e s m args below meth c s₁ Bd hml hv
  obtain ⟨hargs, C, hR⟩ := gC.enter (l := l) rfl Bd hml hv
  subst hargs
  have hl := lv_entry ([.ref (B + a0), .int a1]) (n := 2) (Nat.le_of_ble_eq_true rfl)
  rw [lg_entry_eq]
  generalize (lg_sl ([.ref (B + a0), .int a1]) ++ List.replicate (2 - (lg_sl ([.ref (B + a0), .int a1])).length) Slot.unset).toArray = ls at hl ⊢
  have hl : lv_has ls 2 [(0, .ref (B + a0)), (1, .int a1)] := hl
  exact c_X_feed_b0 C a0 a1 w (lv_sub hl [0, 1] rfl) hf hR va_S.rf
theorem d_X_town_0 : decode b_X_town 0 = .ok (.aload_n 0, 1) := by decide +kernel
theorem d_X_town_1 : decode b_X_town 1 = .ok (.getfield 48, 3) := by decide +kernel
theorem d_X_town_4 : decode b_X_town 4 = .ok (.bipush 6, 2) := by decide +kernel
theorem d_X_town_6 : decode b_X_town 6 = .ok (.if_icmp .lt 6, 3) := by decide +kernel
theorem d_X_town_9 : decode b_X_town 9 = .ok (.bipush (-4), 2) := by decide +kernel
theorem d_X_town_11 : decode b_X_town 11 = .ok (.ireturn, 1) := by decide +kernel
theorem d_X_town_12 : decode b_X_town 12 = .ok (.aload_n 0, 1) := by decide +kernel
theorem d_X_town_13 : decode b_X_town 13 = .ok (.getfield 44, 3) := by decide +kernel
theorem d_X_town_16 : decode b_X_town 16 = .ok (.aload_n 0, 1) := by decide +kernel
theorem d_X_town_17 : decode b_X_town 17 = .ok (.getfield 48, 3) := by decide +kernel
theorem d_X_town_20 : decode b_X_town 20 = .ok (.aaload, 1) := by decide +kernel
theorem d_X_town_21 : decode b_X_town 21 = .ok (.astore_n 1, 1) := by decide +kernel
theorem d_X_town_22 : decode b_X_town 22 = .ok (.aload_n 1, 1) := by decide +kernel
theorem d_X_town_23 : decode b_X_town 23 = .ok (.aload_n 0, 1) := by decide +kernel
theorem d_X_town_24 : decode b_X_town 24 = .ok (.getfield 52, 3) := by decide +kernel
theorem d_X_town_27 : decode b_X_town 27 = .ok (.aload_n 0, 1) := by decide +kernel
theorem d_X_town_28 : decode b_X_town 28 = .ok (.getfield 56, 3) := by decide +kernel
theorem d_X_town_31 : decode b_X_town 31 = .ok (.invokevirtual 136, 3) := by decide +kernel
theorem d_X_town_34 : decode b_X_town 34 = .ok (.istore_n 2, 1) := by decide +kernel
theorem d_X_town_35 : decode b_X_town 35 = .ok (.aload_n 0, 1) := by decide +kernel
theorem d_X_town_36 : decode b_X_town 36 = .ok (.iconst 0, 1) := by decide +kernel
theorem d_X_town_37 : decode b_X_town 37 = .ok (.putfield 56, 3) := by decide +kernel
theorem d_X_town_40 : decode b_X_town 40 = .ok (.iload_n 2, 1) := by decide +kernel
theorem d_X_town_41 : decode b_X_town 41 = .ok (.iconst (-1), 1) := by decide +kernel
theorem d_X_town_42 : decode b_X_town 42 = .ok (.if_icmp .eq 8, 3) := by decide +kernel
theorem d_X_town_45 : decode b_X_town 45 = .ok (.bipush (-10), 2) := by decide +kernel
theorem d_X_town_47 : decode b_X_town 47 = .ok (.iload_n 2, 1) := by decide +kernel
theorem d_X_town_48 : decode b_X_town 48 = .ok (.isub, 1) := by decide +kernel
theorem d_X_town_49 : decode b_X_town 49 = .ok (.ireturn, 1) := by decide +kernel
theorem d_X_town_50 : decode b_X_town 50 = .ok (.aload_n 0, 1) := by decide +kernel
theorem d_X_town_51 : decode b_X_town 51 = .ok (.getfield 23, 3) := by decide +kernel
theorem d_X_town_54 : decode b_X_town 54 = .ok (.aload_n 1, 1) := by decide +kernel
theorem d_X_town_55 : decode b_X_town 55 = .ok (.putfield 104, 3) := by decide +kernel
theorem d_X_town_58 : decode b_X_town 58 = .ok (.aload_n 0, 1) := by decide +kernel
theorem d_X_town_59 : decode b_X_town 59 = .ok (.dup, 1) := by decide +kernel
theorem d_X_town_60 : decode b_X_town 60 = .ok (.getfield 48, 3) := by decide +kernel
theorem d_X_town_63 : decode b_X_town 63 = .ok (.iconst 1, 1) := by decide +kernel
theorem d_X_town_64 : decode b_X_town 64 = .ok (.iadd, 1) := by decide +kernel
theorem d_X_town_65 : decode b_X_town 65 = .ok (.putfield 48, 3) := by decide +kernel
theorem d_X_town_68 : decode b_X_town 68 = .ok (.aload_n 0, 1) := by decide +kernel
theorem d_X_town_69 : decode b_X_town 69 = .ok (.getfield 48, 3) := by decide +kernel
theorem d_X_town_72 : decode b_X_town 72 = .ok (.iconst 1, 1) := by decide +kernel
theorem d_X_town_73 : decode b_X_town 73 = .ok (.isub, 1) := by decide +kernel
theorem d_X_town_74 : decode b_X_town 74 = .ok (.ireturn, 1) := by decide +kernel
set_option maxRecDepth 20000 in
theorem c_X_town_b0 {r : Int32} {wz : gW} (C : gC p s m args meth c "RidCoppers" b_X_town 3 (some .int) D cA oc B) (a0 : Nat) (w : gW) {ls : Array Slot} {H : Heap} {locs : List Loc} (hl : lv_has ls 3 [(0, .ref (B + a0))]) (hf : f_X_town_b0 N a0 w = some (r, wz)) (hR : gRep D cA B w H) (hS : va_S (gA B) s.heap H locs) : W p l e ({ frames := 50, cells := 0, slots := 0, locals := 1046 } : Room) s m args below meth c H locs 0 0 (MQ below (gQi D cA B r wz) args s 0 0 (gA B)) (F0 m 0 ls []) := by
  obtain ⟨hx, hb, hml, hown, hts, hr, hlocks, hK, hBs⟩ := id C
  unfold f_X_town_b0 at hf
  refine lv_aload_n hx hb d_X_town_0 rfl (lv_at hl 0 rfl) ?_
  have ⟨h1, hf⟩ := gd_e hf
  refine g_getI hx hb hts hown hK hR fl_X_48 (fun _ => rfl) h1 d_X_town_1 ?_
  refine g_nI hf (fun x2 hf => ?_)
  refine lv_bipush (v := 6) hx hb d_X_town_4 (by decide) ?_
  refine lv_icmp_lt (tgt := 12) hx hb d_X_town_6 (by decide) (fun hc => ?_) (fun hc => ?_)
  · have hf := cd_t hc hf
    refine lv_aload_n hx hb d_X_town_12 rfl (lv_at hl 0 rfl) ?_
    have ⟨x3, h4, hf⟩ := rr_e hf
    refine g_getR hx hb hts hown hK hR fl_X_44 (fun _ => rfl) h1 h4 d_X_town_13 ?_
    refine lv_aload_n hx hb d_X_town_16 rfl (lv_at hl 0 rfl) ?_
    refine g_getI hx hb hts hown hK hR fl_X_48 (fun _ => rfl) h1 d_X_town_17 ?_
    refine g_nI hf (fun x5 hf => ?_)
    have ⟨h6, hf⟩ := gd_e hf
    have ⟨h7, hf⟩ := gd_e hf
    have ⟨x8, h9, hf⟩ := rr_e hf
    refine g_aald hx hb hK hR (by decide) rfl (fun _ _ => rfl) h6 h7 h9 d_X_town_20 ?_
    refine lv_astore_n (lv' := [(1, .ref (B + x8)), (0, .ref (B + a0))]) hx hb d_X_town_21 rfl hl (by decide) rfl (fun ls hl => ?_)
    refine lv_aload_n hx hb d_X_town_22 rfl (lv_at hl 0 rfl) ?_
    refine lv_aload_n hx hb d_X_town_23 rfl (lv_at hl 1 rfl) ?_
    have ⟨x10, h11, hf⟩ := rr_e hf
    refine g_getR hx hb hts hown hK hR fl_X_52 (fun _ => rfl) h1 h11 d_X_town_24 ?_
    refine lv_aload_n hx hb d_X_town_27 rfl (lv_at hl 1 rfl) ?_
    refine g_getI hx hb hts hown hK hR fl_X_56 (fun _ => rfl) h1 d_X_town_28 ?_
    refine g_nI hf (fun x12 hf => ?_)
    have ⟨h16, hf⟩ := gd_e hf
    have ⟨x13, w14, h15, hf⟩ := kl_e hf
    refine g_ki0 (g_rV (As := [.ref (B + x10), .int x12]) (rest := []) hx hb hml hown hts hK hR hS (c_Tn_faultOf l D cA oc B N x8 x10 x12 w h15) I_Tn_faultOf m_434 m_436 (gRecv hK hR (ci := 7) rfl h16) rfl rfl (Nat.le_of_ble_eq_true rfl) hl.1 ⟨Nat.le_of_ble_eq_true rfl, Nat.le_of_ble_eq_true rfl⟩ ⟨Nat.le_of_ble_eq_true rfl, Nat.le_of_ble_eq_true rfl⟩ d_X_town_31) hS (fun H locs hR hS => ?_)
    refine lv_istore_n (lv' := [(2, .int x13), (1, .ref (B + x8)), (0, .ref (B + a0))]) hx hb d_X_town_34 rfl hl (by decide) rfl (fun ls hl => ?_)
    refine lv_aload_n hx hb d_X_town_35 rfl (lv_at hl 2 rfl) ?_
    refine lv_iconst (v := 0) hx hb d_X_town_36 (by decide) ?_
    have ⟨h17, hf⟩ := gd_e hf
    refine g_putI hx hb hts hown hK hR hS pf_X_56 (fun _ => rfl) rfl rfl h17 d_X_town_37 (fun H locs hR hS => ?_)
    refine g_nW hf hR (fun w18 hf hR => ?_)
    refine lv_iload_n hx hb d_X_town_40 rfl (lv_at hl 0 rfl) ?_
    refine lv_iconst (v := (-1)) hx hb d_X_town_41 (by decide) ?_
    refine lv_icmp_eq (tgt := 50) hx hb d_X_town_42 (by decide) (fun hc => ?_) (fun hc => ?_)
    · have hf := cd_t hc hf
      refine lv_aload_n hx hb d_X_town_50 rfl (lv_at hl 2 rfl) ?_
      have ⟨h19, hf⟩ := gd_e hf
      have ⟨x20, h21, hf⟩ := rr_e hf
      refine g_getR hx hb hts hown hK hR fl_X_23 (fun _ => rfl) h19 h21 d_X_town_51 ?_
      refine lv_aload_n hx hb d_X_town_54 rfl (lv_at hl 1 rfl) ?_
      have ⟨h22, hf⟩ := gd_e hf
      refine g_putR hx hb hts hown hK hR hS pf_X_104 (fun _ => rfl) (fun _ => rfl) (fun _ => rfl) h22 d_X_town_55 (fun H locs hR hS => ?_)
      refine g_nW hf hR (fun w23 hf hR => ?_)
      refine lv_aload_n hx hb d_X_town_58 rfl (lv_at hl 2 rfl) ?_
      refine lv_dup hx hb d_X_town_59 rfl ?_
      have ⟨h24, hf⟩ := gd_e hf
      refine g_getI hx hb hts hown hK hR fl_X_48 (fun _ => rfl) h24 d_X_town_60 ?_
      refine g_nI hf (fun x25 hf => ?_)
      refine lv_iconst (v := 1) hx hb d_X_town_63 (by decide) ?_
      refine lv_iadd hx hb d_X_town_64 ?_
      refine g_nI hf (fun x26 hf => ?_)
      refine g_putI hx hb hts hown hK hR hS pf_X_48 (fun _ => rfl) rfl rfl h24 d_X_town_65 (fun H locs hR hS => ?_)
      refine g_nW hf hR (fun w27 hf hR => ?_)
      refine lv_aload_n hx hb d_X_town_68 rfl (lv_at hl 2 rfl) ?_
      have ⟨h28, hf⟩ := gd_e hf
      refine g_getI hx hb hts hown hK hR fl_X_48 (fun _ => rfl) h28 d_X_town_69 ?_
      refine g_nI hf (fun x29 hf => ?_)
      refine lv_iconst (v := 1) hx hb d_X_town_72 (by decide) ?_
      refine lv_isub hx hb d_X_town_73 ?_
      refine g_nI hf (fun x30 hf => ?_)
      exact g_iret hx hb hr hlocks hR hS hf rfl d_X_town_74
    have hf := cd_f hc hf
    refine lv_bipush (v := (-10)) hx hb d_X_town_45 (by decide) ?_
    refine lv_iload_n hx hb d_X_town_47 rfl (lv_at hl 0 rfl) ?_
    refine lv_isub hx hb d_X_town_48 ?_
    refine g_nI hf (fun x31 hf => ?_)
    exact g_iret hx hb hr hlocks hR hS hf rfl d_X_town_49
  have hf := cd_f hc hf
  refine lv_bipush (v := (-4)) hx hb d_X_town_9 (by decide) ?_
  exact g_iret hx hb hr hlocks hR hS hf rfl d_X_town_11
theorem c_X_town (l : Launch) (D : va_G) (cA : Nat → ClassId) (oc : gO) (B N : Nat) (a0 : Nat) (w : gW) {wz : gW} {r : Int32} (hf : f_X_town N a0 w = some (r, wz)) : Met l y_X_town (Cond.code y_X_town b_X_town 3 (some .int) :: lw_good) ({ frames := 50, cells := 0, slots := 0, locals := 1046 } : Room) (gPre D cA oc B [.ref (B + a0)] w) (gQi D cA B r wz) 0 0 (gA B) := by
  refine Met.ofW (cc := b_X_town) (maxL := 3) (ret := (some .int)) (by decide +kernel) rfl ?_
  intro p e s m args below meth c s₁ Bd hml hv
  obtain ⟨hargs, C, hR⟩ := gC.enter (l := l) rfl Bd hml hv
  subst hargs
  have hl := lv_entry ([.ref (B + a0)]) (n := 3) (Nat.le_of_ble_eq_true rfl)
  rw [lg_entry_eq]
  generalize (lg_sl ([.ref (B + a0)]) ++ List.replicate (3 - (lg_sl ([.ref (B + a0)])).length) Slot.unset).toArray = ls at hl ⊢
  have hl : lv_has ls 3 [(0, .ref (B + a0))] := hl
  exact c_X_town_b0 C a0 w (lv_sub hl [0] rfl) hf hR va_S.rf
theorem d_X_told_0 : decode b_X_told 0 = .ok (.iload_n 1, 1) := by decide +kernel
theorem d_X_told_1 : decode b_X_told 1 = .ok (.ifCond .ne 14, 3) := by decide +kernel
theorem d_X_told_4 : decode b_X_told 4 = .ok (.aload_n 0, 1) := by decide +kernel
theorem d_X_told_5 : decode b_X_told 5 = .ok (.getfield 23, 3) := by decide +kernel
theorem d_X_told_8 : decode b_X_told 8 = .ok (.getfield 104, 3) := by decide +kernel
theorem d_X_told_11 : decode b_X_told 11 = .ok (.getfield 140, 3) := by decide +kernel
theorem d_X_told_14 : decode b_X_told 14 = .ok (.ireturn, 1) := by decide +kernel
theorem d_X_told_15 : decode b_X_told 15 = .ok (.iload_n 1, 1) := by decide +kernel
theorem d_X_told_16 : decode b_X_told 16 = .ok (.bipush 10, 2) := by decide +kernel
theorem d_X_told_18 : decode b_X_told 18 = .ok (.isub, 1) := by decide +kernel
theorem d_X_told_19 : decode b_X_told 19 = .ok (.invokestatic 96, 3) := by decide +kernel
theorem d_X_told_22 : decode b_X_told 22 = .ok (.ifCond .eq 16, 3) := by decide +kernel
theorem d_X_told_25 : decode b_X_told 25 = .ok (.aload_n 0, 1) := by decide +kernel
theorem d_X_told_26 : decode b_X_told 26 = .ok (.getfield 23, 3) := by decide +kernel
theorem d_X_told_29 : decode b_X_told 29 = .ok (.getfield 78, 3) := by decide +kernel
theorem d_X_told_32 : decode b_X_told 32 = .ok (.iload_n 1, 1) := by decide +kernel
theorem d_X_told_33 : decode b_X_told 33 = .ok (.bipush 10, 2) := by decide +kernel
theorem d_X_told_35 : decode b_X_told 35 = .ok (.isub, 1) := by decide +kernel
theorem d_X_told_36 : decode b_X_told 36 = .ok (.iaload, 1) := by decide +kernel
theorem d_X_told_37 : decode b_X_told 37 = .ok (.ireturn, 1) := by decide +kernel
theorem d_X_told_38 : decode b_X_told 38 = .ok (.iload_n 1, 1) := by decide +kernel
theorem d_X_told_39 : decode b_X_told 39 = .ok (.bipush 20, 2) := by decide +kernel
theorem d_X_told_41 : decode b_X_told 41 = .ok (.isub, 1) := by decide +kernel
theorem d_X_told_42 : decode b_X_told 42 = .ok (.invokestatic 96, 3) := by decide +kernel
theorem d_X_told_45 : decode b_X_told 45 = .ok (.ifCond .eq 19, 3) := by decide +kernel
theorem d_X_told_48 : decode b_X_told 48 = .ok (.aload_n 0, 1) := by decide +kernel
theorem d_X_told_49 : decode b_X_told 49 = .ok (.getfield 23, 3) := by decide +kernel
theorem d_X_told_52 : decode b_X_told 52 = .ok (.getfield 104, 3) := by decide +kernel
theorem d_X_told_55 : decode b_X_told 55 = .ok (.getfield 143, 3) := by decide +kernel
theorem d_X_told_58 : decode b_X_told 58 = .ok (.iload_n 1, 1) := by decide +kernel
theorem d_X_told_59 : decode b_X_told 59 = .ok (.bipush 20, 2) := by decide +kernel
theorem d_X_told_61 : decode b_X_told 61 = .ok (.isub, 1) := by decide +kernel
theorem d_X_told_62 : decode b_X_told 62 = .ok (.iaload, 1) := by decide +kernel
theorem d_X_told_63 : decode b_X_told 63 = .ok (.ireturn, 1) := by decide +kernel
theorem d_X_told_64 : decode b_X_told 64 = .ok (.iconst (-1), 1) := by decide +kernel
theorem d_X_told_65 : decode b_X_told 65 = .ok (.ireturn, 1) := by decide +kernel
set_option maxRecDepth 20000 in
theorem c_X_told_b0 {r : Int32} {wz : gW} (C : gC p s m args meth c "RidCoppers" b_X_told 2 (some .int) D cA oc B) (a0 : Nat) (a1 : Int32) (w : gW) {ls : Array Slot} {H : Heap} {locs : List Loc} (hl : lv_has ls 2 [(0, .ref (B + a0)), (1, .int a1)]) (hf : f_X_told_b0 N a0 a1 w = some (r, wz)) (hR : gRep D cA B w H) (hS : va_S (gA B) s.heap H locs) : W p l e ({ frames := 2, cells := 0, slots := 0, locals := 60 } : Room) s m args below meth c H locs 0 0 (MQ below (gQi D cA B r wz) args s 0 0 (gA B)) (F0 m 0 ls []) := by
  obtain ⟨hx, hb, hml, hown, hts, hr, hlocks, hK, hBs⟩ := id C
  unfold f_X_told_b0 at hf
  refine lv_iload_n hx hb d_X_told_0 rfl (lv_at hl 1 rfl) ?_
  refine lv_if_ne (tgt := 15) hx hb d_X_told_1 (by decide) (fun hc => ?_) (fun hc => ?_)
  · have hf := cd_f hc hf
    refine lv_iload_n hx hb d_X_told_15 rfl (lv_at hl 1 rfl) ?_
    refine lv_bipush (v := 10) hx hb d_X_told_16 (by decide) ?_
    refine lv_isub hx hb d_X_told_18 ?_
    refine g_nI hf (fun x1 hf => ?_)
    have ⟨x2, w3, h4, hf⟩ := kl_e hf
    refine g_ki0 (g_rS (As := [.int x1]) (rest := []) hx hb hml hown hts hK hR hS (c_X_isSort l D cA oc B N x1 w h4) I_X_isSort m_378 rfl rfl (Nat.le_of_ble_eq_true rfl) hl.1 ⟨Nat.le_of_ble_eq_true rfl, Nat.le_of_ble_eq_true rfl⟩ ⟨Nat.le_of_ble_eq_true rfl, Nat.le_of_ble_eq_true rfl⟩ d_X_told_19) hS (fun H locs hR hS => ?_)
    refine lv_if_eq (tgt := 38) hx hb d_X_told_22 (by decide) (fun hc => ?_) (fun hc => ?_)
    · have hf := cd_t hc hf
      refine lv_iload_n hx hb d_X_told_38 rfl (lv_at hl 1 rfl) ?_
      refine lv_bipush (v := 20) hx hb d_X_told_39 (by decide) ?_
      refine lv_isub hx hb d_X_told_41 ?_
      refine g_nI hf (fun x5 hf => ?_)
      have ⟨x6, w7, h8, hf⟩ := kl_e hf
      refine g_ki0 (g_rS (As := [.int x5]) (rest := []) hx hb hml hown hts hK hR hS (c_X_isSort l D cA oc B N x5 w3 h8) I_X_isSort m_378 rfl rfl (Nat.le_of_ble_eq_true rfl) hl.1 ⟨Nat.le_of_ble_eq_true rfl, Nat.le_of_ble_eq_true rfl⟩ ⟨Nat.le_of_ble_eq_true rfl, Nat.le_of_ble_eq_true rfl⟩ d_X_told_42) hS (fun H locs hR hS => ?_)
      refine lv_if_eq (tgt := 64) hx hb d_X_told_45 (by decide) (fun hc => ?_) (fun hc => ?_)
      · have hf := cd_t hc hf
        refine lv_iconst (v := (-1)) hx hb d_X_told_64 (by decide) ?_
        exact g_iret hx hb hr hlocks hR hS hf rfl d_X_told_65
      have hf := cd_f hc hf
      refine lv_aload_n hx hb d_X_told_48 rfl (lv_at hl 0 rfl) ?_
      have ⟨h9, hf⟩ := gd_e hf
      have ⟨x10, h11, hf⟩ := rr_e hf
      refine g_getR hx hb hts hown hK hR fl_X_23 (fun _ => rfl) h9 h11 d_X_told_49 ?_
      have ⟨h12, hf⟩ := gd_e hf
      have ⟨x13, h14, hf⟩ := rr_e hf
      refine g_getR hx hb hts hown hK hR fl_X_104 (fun _ => rfl) h12 h14 d_X_told_52 ?_
      have ⟨h15, hf⟩ := gd_e hf
      have ⟨x16, h17, hf⟩ := rr_e hf
      refine g_getR hx hb hts hown hK hR fl_X_143 (fun _ => rfl) h15 h17 d_X_told_55 ?_
      refine lv_iload_n hx hb d_X_told_58 rfl (lv_at hl 1 rfl) ?_
      refine lv_bipush (v := 20) hx hb d_X_told_59 (by decide) ?_
      refine lv_isub hx hb d_X_told_61 ?_
      refine g_nI hf (fun x18 hf => ?_)
      have ⟨h19, hf⟩ := gd_e hf
      have ⟨h20, hf⟩ := gd_e hf
      refine g_iald hx hb hK hR h19 h20 d_X_told_62 ?_
      refine g_nI hf (fun x21 hf => ?_)
      exact g_iret hx hb hr hlocks hR hS hf rfl d_X_told_63
    have hf := cd_f hc hf
    refine lv_aload_n hx hb d_X_told_25 rfl (lv_at hl 0 rfl) ?_
    have ⟨h22, hf⟩ := gd_e hf
    have ⟨x23, h24, hf⟩ := rr_e hf
    refine g_getR hx hb hts hown hK hR fl_X_23 (fun _ => rfl) h22 h24 d_X_told_26 ?_
    have ⟨h25, hf⟩ := gd_e hf
    have ⟨x26, h27, hf⟩ := rr_e hf
    refine g_getR hx hb hts hown hK hR fl_X_78 (fun _ => rfl) h25 h27 d_X_told_29 ?_
    refine lv_iload_n hx hb d_X_told_32 rfl (lv_at hl 1 rfl) ?_
    refine lv_bipush (v := 10) hx hb d_X_told_33 (by decide) ?_
    refine lv_isub hx hb d_X_told_35 ?_
    refine g_nI hf (fun x28 hf => ?_)
    have ⟨h29, hf⟩ := gd_e hf
    have ⟨h30, hf⟩ := gd_e hf
    refine g_iald hx hb hK hR h29 h30 d_X_told_36 ?_
    refine g_nI hf (fun x31 hf => ?_)
    exact g_iret hx hb hr hlocks hR hS hf rfl d_X_told_37
  have hf := cd_t hc hf
  refine lv_aload_n hx hb d_X_told_4 rfl (lv_at hl 0 rfl) ?_
  have ⟨h32, hf⟩ := gd_e hf
  have ⟨x33, h34, hf⟩ := rr_e hf
  refine g_getR hx hb hts hown hK hR fl_X_23 (fun _ => rfl) h32 h34 d_X_told_5 ?_
  have ⟨h35, hf⟩ := gd_e hf
  have ⟨x36, h37, hf⟩ := rr_e hf
  refine g_getR hx hb hts hown hK hR fl_X_104 (fun _ => rfl) h35 h37 d_X_told_8 ?_
  have ⟨h38, hf⟩ := gd_e hf
  refine g_getI hx hb hts hown hK hR fl_X_140 (fun _ => rfl) h38 d_X_told_11 ?_
  refine g_nI hf (fun x39 hf => ?_)
  exact g_iret hx hb hr hlocks hR hS hf rfl d_X_told_14
theorem c_X_told (l : Launch) (D : va_G) (cA : Nat → ClassId) (oc : gO) (B N : Nat) (a0 : Nat) (a1 : Int32) (w : gW) {wz : gW} {r : Int32} (hf : f_X_told N a0 a1 w = some (r, wz)) : Met l y_X_told (Cond.code y_X_told b_X_told 2 (some .int) :: lw_good) ({ frames := 2, cells := 0, slots := 0, locals := 60 } : Room) (gPre D cA oc B [.ref (B + a0), .int a1] w) (gQi D cA B r wz) 0 0 (gA B) := by
  refine Met.ofW (cc := b_X_told) (maxL := 2) (ret := (some .int)) (by decide +kernel) rfl ?_
  intro p e s m args below meth c s₁ Bd hml hv
  obtain ⟨hargs, C, hR⟩ := gC.enter (l := l) rfl Bd hml hv
  subst hargs
  have hl := lv_entry ([.ref (B + a0), .int a1]) (n := 2) (Nat.le_of_ble_eq_true rfl)
  rw [lg_entry_eq]
  generalize (lg_sl ([.ref (B + a0), .int a1]) ++ List.replicate (2 - (lg_sl ([.ref (B + a0), .int a1])).length) Slot.unset).toArray = ls at hl ⊢
  have hl : lv_has ls 2 [(0, .ref (B + a0)), (1, .int a1)] := hl
  exact c_X_told_b0 C a0 a1 w (lv_sub hl [0, 1] rfl) hf hR va_S.rf
theorem d_X_isPrice_0 : decode b_X_isPrice 0 = .ok (.iload_n 0, 1) := by decide +kernel
theorem d_X_isPrice_1 : decode b_X_isPrice 1 = .ok (.iconst 1, 1) := by decide +kernel
theorem d_X_isPrice_2 : decode b_X_isPrice 2 = .ok (.if_icmp .lt 14, 3) := by decide +kernel
theorem d_X_isPrice_5 : decode b_X_isPrice 5 = .ok (.iload_n 0, 1) := by decide +kernel
theorem d_X_isPrice_6 : decode b_X_isPrice 6 = .ok (.sipush 199, 3) := by decide +kernel
theorem d_X_isPrice_9 : decode b_X_isPrice 9 = .ok (.if_icmp .gt 7, 3) := by decide +kernel
theorem d_X_isPrice_12 : decode b_X_isPrice 12 = .ok (.iconst 1, 1) := by decide +kernel
theorem d_X_isPrice_13 : decode b_X_isPrice 13 = .ok (.goto 4, 3) := by decide +kernel
theorem d_X_isPrice_16 : decode b_X_isPrice 16 = .ok (.iconst 0, 1) := by decide +kernel
theorem d_X_isPrice_17 : decode b_X_isPrice 17 = .ok (.ireturn, 1) := by decide +kernel
set_option maxRecDepth 20000 in
theorem c_X_isPrice_b0 {r : Int32} {wz : gW} (C : gC p s m args meth c "RidCoppers" b_X_isPrice 1 (some .boolean) D cA oc B) (a0 : Int32) (w : gW) {ls : Array Slot} {H : Heap} {locs : List Loc} (hl : lv_has ls 1 [(0, .int a0)]) (hf : f_X_isPrice_b0 N a0 w = some (r, wz)) (hR : gRep D cA B w H) (hS : va_S (gA B) s.heap H locs) : W p l e ({ frames := 1, cells := 0, slots := 0, locals := 40 } : Room) s m args below meth c H locs 0 0 (MQ below (gQi D cA B r wz) args s 0 0 (gA B)) (F0 m 0 ls []) := by
  obtain ⟨hx, hb, hml, hown, hts, hr, hlocks, hK, hBs⟩ := id C
  unfold f_X_isPrice_b0 at hf
  refine lv_iload_n hx hb d_X_isPrice_0 rfl (lv_at hl 0 rfl) ?_
  refine lv_iconst (v := 1) hx hb d_X_isPrice_1 (by decide) ?_
  refine lv_icmp_lt (tgt := 16) hx hb d_X_isPrice_2 (by decide) (fun hc => ?_) (fun hc => ?_)
  · have hf := cd_t hc hf
    refine lv_iconst (v := 0) hx hb d_X_isPrice_16 (by decide) ?_
    exact g_iret hx hb hr hlocks hR hS hf rfl d_X_isPrice_17
  have hf := cd_f hc hf
  refine lv_iload_n hx hb d_X_isPrice_5 rfl (lv_at hl 0 rfl) ?_
  refine lv_sipush (v := 199) hx hb d_X_isPrice_6 (by decide) ?_
  refine lv_icmp_gt (tgt := 16) hx hb d_X_isPrice_9 (by decide) (fun hc => ?_) (fun hc => ?_)
  · have hf := cd_t hc hf
    refine lv_iconst (v := 0) hx hb d_X_isPrice_16 (by decide) ?_
    exact g_iret hx hb hr hlocks hR hS hf rfl d_X_isPrice_17
  have hf := cd_f hc hf
  refine lv_iconst (v := 1) hx hb d_X_isPrice_12 (by decide) ?_
  refine lv_goto (tgt := 17) hx hb d_X_isPrice_13 (by decide) ?_
  exact g_iret hx hb hr hlocks hR hS hf rfl d_X_isPrice_17
theorem c_X_isPrice (l : Launch) (D : va_G) (cA : Nat → ClassId) (oc : gO) (B N : Nat) (a0 : Int32) (w : gW) {wz : gW} {r : Int32} (hf : f_X_isPrice N a0 w = some (r, wz)) : Met l y_X_isPrice (Cond.code y_X_isPrice b_X_isPrice 1 (some .boolean) :: lw_good) ({ frames := 1, cells := 0, slots := 0, locals := 40 } : Room) (gPre D cA oc B [.int a0] w) (gQi D cA B r wz) 0 0 (gA B) := by
  refine Met.ofW (cc := b_X_isPrice) (maxL := 1) (ret := (some .boolean)) (by decide +kernel) rfl ?_
  intro p e s m args below meth c s₁ Bd hml hv
  obtain ⟨hargs, C, hR⟩ := gC.enter (l := l) rfl Bd hml hv
  subst hargs
  have hl := lv_entry ([.int a0]) (n := 1) (Nat.le_of_ble_eq_true rfl)
  rw [lg_entry_eq]
  generalize (lg_sl ([.int a0]) ++ List.replicate (1 - (lg_sl ([.int a0])).length) Slot.unset).toArray = ls at hl ⊢
  have hl : lv_has ls 1 [(0, .int a0)] := hl
  exact c_X_isPrice_b0 C a0 w (lv_sub hl [0] rfl) hf hR va_S.rf
theorem d_X_pay_0 : decode b_X_pay 0 = .ok (.aload_n 0, 1) := by decide +kernel
theorem d_X_pay_1 : decode b_X_pay 1 = .ok (.iload_n 1, 1) := by decide +kernel
theorem d_X_pay_2 : decode b_X_pay 2 = .ok (.invokevirtual 92, 3) := by decide +kernel
theorem d_X_pay_5 : decode b_X_pay 5 = .ok (.astore_n 3, 1) := by decide +kernel
theorem d_X_pay_6 : decode b_X_pay 6 = .ok (.aload_n 3, 1) := by decide +kernel
theorem d_X_pay_7 : decode b_X_pay 7 = .ok (.ifnonnull 5, 3) := by decide +kernel
theorem d_X_pay_10 : decode b_X_pay 10 = .ok (.iconst (-1), 1) := by decide +kernel
theorem d_X_pay_11 : decode b_X_pay 11 = .ok (.ireturn, 1) := by decide +kernel
theorem d_X_pay_12 : decode b_X_pay 12 = .ok (.iload_n 2, 1) := by decide +kernel
theorem d_X_pay_13 : decode b_X_pay 13 = .ok (.invokestatic 146, 3) := by decide +kernel
theorem d_X_pay_16 : decode b_X_pay 16 = .ok (.ifCond .ne 6, 3) := by decide +kernel
theorem d_X_pay_19 : decode b_X_pay 19 = .ok (.bipush (-2), 2) := by decide +kernel
theorem d_X_pay_21 : decode b_X_pay 21 = .ok (.ireturn, 1) := by decide +kernel
theorem d_X_pay_22 : decode b_X_pay 22 = .ok (.aload_n 0, 1) := by decide +kernel
theorem d_X_pay_23 : decode b_X_pay 23 = .ok (.getfield 40, 3) := by decide +kernel
theorem d_X_pay_26 : decode b_X_pay 26 = .ok (.aload_n 0, 1) := by decide +kernel
theorem d_X_pay_27 : decode b_X_pay 27 = .ok (.getfield 23, 3) := by decide +kernel
theorem d_X_pay_30 : decode b_X_pay 30 = .ok (.aload_n 3, 1) := by decide +kernel
theorem d_X_pay_31 : decode b_X_pay 31 = .ok (.iload_n 2, 1) := by decide +kernel
theorem d_X_pay_32 : decode b_X_pay 32 = .ok (.invokevirtual 149, 3) := by decide +kernel
theorem d_X_pay_35 : decode b_X_pay 35 = .ok (.ifCond .ne 6, 3) := by decide +kernel
theorem d_X_pay_38 : decode b_X_pay 38 = .ok (.bipush (-3), 2) := by decide +kernel
theorem d_X_pay_40 : decode b_X_pay 40 = .ok (.ireturn, 1) := by decide +kernel
theorem d_X_pay_41 : decode b_X_pay 41 = .ok (.aload_n 0, 1) := by decide +kernel
theorem d_X_pay_42 : decode b_X_pay 42 = .ok (.getfield 40, 3) := by decide +kernel
theorem d_X_pay_45 : decode b_X_pay 45 = .ok (.invokevirtual 153, 3) := by decide +kernel
theorem d_X_pay_48 : decode b_X_pay 48 = .ok (.aload_n 0, 1) := by decide +kernel
theorem d_X_pay_49 : decode b_X_pay 49 = .ok (.getfield 40, 3) := by decide +kernel
theorem d_X_pay_52 : decode b_X_pay 52 = .ok (.getfield 156, 3) := by decide +kernel
theorem d_X_pay_55 : decode b_X_pay 55 = .ok (.ireturn, 1) := by decide +kernel
set_option maxRecDepth 20000 in
theorem c_X_pay_b0 {r : Int32} {wz : gW} (C : gC p s m args meth c "RidCoppers" b_X_pay 4 (some .int) D cA oc B) (a0 : Nat) (a1 : Int32) (a2 : Int32) (w : gW) {ls : Array Slot} {H : Heap} {locs : List Loc} (hl : lv_has ls 4 [(0, .ref (B + a0)), (1, .int a1), (2, .int a2)]) (hf : f_X_pay_b0 N a0 a1 a2 w = some (r, wz)) (hR : gRep D cA B w H) (hS : va_S (gA B) s.heap H locs) : W p l e ({ frames := 7, cells := 0, slots := 0, locals := 193 } : Room) s m args below meth c H locs 0 0 (MQ below (gQi D cA B r wz) args s 0 0 (gA B)) (F0 m 0 ls []) := by
  obtain ⟨hx, hb, hml, hown, hts, hr, hlocks, hK, hBs⟩ := id C
  unfold f_X_pay_b0 at hf
  refine lv_aload_n hx hb d_X_pay_0 rfl (lv_at hl 0 rfl) ?_
  refine lv_iload_n hx hb d_X_pay_1 rfl (lv_at hl 1 rfl) ?_
  have ⟨h4, hf⟩ := gd_e hf
  have ⟨x1, w2, h3, hf⟩ := kl_e hf
  refine g_kr0 (g_rV (As := [.int a1]) (rest := []) hx hb hml hown hts hK hR hS (c_X_payerAt l D cA oc B N a0 a1 w h3) I_X_payerAt m_374 mp_0 (gRecv hK hR (ci := 11) rfl h4) rfl rfl (Nat.le_of_ble_eq_true rfl) hl.1 ⟨Nat.le_of_ble_eq_true rfl, Nat.le_of_ble_eq_true rfl⟩ ⟨Nat.le_of_ble_eq_true rfl, Nat.le_of_ble_eq_true rfl⟩ d_X_pay_2) hS (fun H locs hR hS => ?_)
  rcases x1 with _ | x5
  · have hf := nr_n hf
    refine lv_astore_nN (lv' := [(3, .null), (0, .ref (B + a0)), (1, .int a1), (2, .int a2)]) hx hb d_X_pay_5 rfl hl (by decide) rfl (fun ls hl => ?_)
    refine lv_aload_nN hx hb d_X_pay_6 rfl (lv_at hl 0 rfl) ?_
    refine lv_ifnonnullN hx hb d_X_pay_7 ?_
    refine lv_iconst (v := (-1)) hx hb d_X_pay_10 (by decide) ?_
    exact g_iret hx hb hr hlocks hR hS hf rfl d_X_pay_11
  have hf := nr_s hf
  refine lv_astore_n (lv' := [(3, .ref (B + x5)), (0, .ref (B + a0)), (1, .int a1), (2, .int a2)]) hx hb d_X_pay_5 rfl hl (by decide) rfl (fun ls hl => ?_)
  refine lv_aload_n hx hb d_X_pay_6 rfl (lv_at hl 0 rfl) ?_
  refine lv_ifnonnull (tgt := 12) hx hb d_X_pay_7 (by decide) ?_
  refine lv_iload_n hx hb d_X_pay_12 rfl (lv_at hl 3 rfl) ?_
  have ⟨x7, w8, h9, hf⟩ := kl_e hf
  refine g_ki0 (g_rS (As := [.int a2]) (rest := []) hx hb hml hown hts hK hR hS (c_X_isPrice l D cA oc B N a2 w2 h9) I_X_isPrice m_615 rfl rfl (Nat.le_of_ble_eq_true rfl) hl.1 ⟨Nat.le_of_ble_eq_true rfl, Nat.le_of_ble_eq_true rfl⟩ ⟨Nat.le_of_ble_eq_true rfl, Nat.le_of_ble_eq_true rfl⟩ d_X_pay_13) hS (fun H locs hR hS => ?_)
  refine lv_if_ne (tgt := 22) hx hb d_X_pay_16 (by decide) (fun hc => ?_) (fun hc => ?_)
  · have hf := cd_f hc hf
    refine lv_aload_n hx hb d_X_pay_22 rfl (lv_at hl 1 rfl) ?_
    have ⟨h10, hf⟩ := gd_e hf
    have ⟨x11, h12, hf⟩ := rr_e hf
    refine g_getR hx hb hts hown hK hR fl_X_40 (fun _ => rfl) h10 h12 d_X_pay_23 ?_
    refine lv_aload_n hx hb d_X_pay_26 rfl (lv_at hl 1 rfl) ?_
    have ⟨x13, h14, hf⟩ := rr_e hf
    refine g_getR hx hb hts hown hK hR fl_X_23 (fun _ => rfl) h10 h14 d_X_pay_27 ?_
    refine lv_aload_n hx hb d_X_pay_30 rfl (lv_at hl 0 rfl) ?_
    refine lv_iload_n hx hb d_X_pay_31 rfl (lv_at hl 3 rfl) ?_
    have ⟨h18, hf⟩ := gd_e hf
    have ⟨x15, w16, h17, hf⟩ := kl_e hf
    refine g_ki0 (g_rV (As := [.ref (B + x13), .ref (B + x5), .int a2]) (rest := []) hx hb hml hown hts hK hR hS (c_Pm_choose l D cA oc B N x11 x13 x5 a2 w8 h17) I_Pm_choose m_618 m_620 (gRecv hK hR (ci := 10) rfl h18) rfl rfl (Nat.le_of_ble_eq_true rfl) hl.1 ⟨Nat.le_of_ble_eq_true rfl, Nat.le_of_ble_eq_true rfl⟩ ⟨Nat.le_of_ble_eq_true rfl, Nat.le_of_ble_eq_true rfl⟩ d_X_pay_32) hS (fun H locs hR hS => ?_)
    refine lv_if_ne (tgt := 41) hx hb d_X_pay_35 (by decide) (fun hc => ?_) (fun hc => ?_)
    · have hf := cd_f hc hf
      refine lv_aload_n hx hb d_X_pay_41 rfl (lv_at hl 1 rfl) ?_
      have ⟨h19, hf⟩ := gd_e hf
      have ⟨x20, h21, hf⟩ := rr_e hf
      refine g_getR hx hb hts hown hK hR fl_X_40 (fun _ => rfl) h19 h21 d_X_pay_42 ?_
      have ⟨h25, hf⟩ := gd_e hf
      have ⟨x22, w23, h24, hf⟩ := kl_e hf
      refine g_kv0 (g_rV (As := []) (rest := []) hx hb hml hown hts hK hR hS (c_Pm_settle l D cA oc B N x20 w16 h24) I_Pm_settle m_715 m_717 (gRecv hK hR (ci := 10) rfl h25) rfl rfl (Nat.le_of_ble_eq_true rfl) hl.1 ⟨Nat.le_of_ble_eq_true rfl, Nat.le_of_ble_eq_true rfl⟩ ⟨Nat.le_of_ble_eq_true rfl, Nat.le_of_ble_eq_true rfl⟩ d_X_pay_45) hS (fun H locs hR hS => ?_)
      refine lv_aload_n hx hb d_X_pay_48 rfl (lv_at hl 1 rfl) ?_
      have ⟨h26, hf⟩ := gd_e hf
      have ⟨x27, h28, hf⟩ := rr_e hf
      refine g_getR hx hb hts hown hK hR fl_X_40 (fun _ => rfl) h26 h28 d_X_pay_49 ?_
      have ⟨h29, hf⟩ := gd_e hf
      refine g_getI hx hb hts hown hK hR fl_X_156 (fun _ => rfl) h29 d_X_pay_52 ?_
      refine g_nI hf (fun x30 hf => ?_)
      exact g_iret hx hb hr hlocks hR hS hf rfl d_X_pay_55
    have hf := cd_t hc hf
    refine lv_bipush (v := (-3)) hx hb d_X_pay_38 (by decide) ?_
    exact g_iret hx hb hr hlocks hR hS hf rfl d_X_pay_40
  have hf := cd_t hc hf
  refine lv_bipush (v := (-2)) hx hb d_X_pay_19 (by decide) ?_
  exact g_iret hx hb hr hlocks hR hS hf rfl d_X_pay_21
theorem c_X_pay (l : Launch) (D : va_G) (cA : Nat → ClassId) (oc : gO) (B N : Nat) (a0 : Nat) (a1 : Int32) (a2 : Int32) (w : gW) {wz : gW} {r : Int32} (hf : f_X_pay N a0 a1 a2 w = some (r, wz)) : Met l y_X_pay (Cond.code y_X_pay b_X_pay 4 (some .int) :: lw_good) ({ frames := 7, cells := 0, slots := 0, locals := 193 } : Room) (gPre D cA oc B [.ref (B + a0), .int a1, .int a2] w) (gQi D cA B r wz) 0 0 (gA B) := by
  refine Met.ofW (cc := b_X_pay) (maxL := 4) (ret := (some .int)) (by decide +kernel) rfl ?_
  intro p e s m args below meth c s₁ Bd hml hv
  obtain ⟨hargs, C, hR⟩ := gC.enter (l := l) rfl Bd hml hv
  subst hargs
  have hl := lv_entry ([.ref (B + a0), .int a1, .int a2]) (n := 4) (Nat.le_of_ble_eq_true rfl)
  rw [lg_entry_eq]
  generalize (lg_sl ([.ref (B + a0), .int a1, .int a2]) ++ List.replicate (4 - (lg_sl ([.ref (B + a0), .int a1, .int a2])).length) Slot.unset).toArray = ls at hl ⊢
  have hl : lv_has ls 4 [(0, .ref (B + a0)), (1, .int a1), (2, .int a2)] := hl
  exact c_X_pay_b0 C a0 a1 a2 w (lv_sub hl [0, 1, 2] rfl) hf hR va_S.rf
theorem d_X_would_0 : decode b_X_would 0 = .ok (.aload_n 0, 1) := by decide +kernel
theorem d_X_would_1 : decode b_X_would 1 = .ok (.iload_n 1, 1) := by decide +kernel
theorem d_X_would_2 : decode b_X_would 2 = .ok (.invokevirtual 92, 3) := by decide +kernel
theorem d_X_would_5 : decode b_X_would 5 = .ok (.astore 4, 2) := by decide +kernel
theorem d_X_would_7 : decode b_X_would 7 = .ok (.iload_n 3, 1) := by decide +kernel
theorem d_X_would_8 : decode b_X_would 8 = .ok (.ifCond .lt 8, 3) := by decide +kernel
theorem d_X_would_11 : decode b_X_would 11 = .ok (.iload_n 3, 1) := by decide +kernel
theorem d_X_would_12 : decode b_X_would 12 = .ok (.iconst 2, 1) := by decide +kernel
theorem d_X_would_13 : decode b_X_would 13 = .ok (.if_icmp .le 23, 3) := by decide +kernel
theorem d_X_would_16 : decode b_X_would 16 = .ok (.iload_n 3, 1) := by decide +kernel
theorem d_X_would_17 : decode b_X_would 17 = .ok (.bipush 10, 2) := by decide +kernel
theorem d_X_would_19 : decode b_X_would 19 = .ok (.isub, 1) := by decide +kernel
theorem d_X_would_20 : decode b_X_would 20 = .ok (.invokestatic 96, 3) := by decide +kernel
theorem d_X_would_23 : decode b_X_would 23 = .ok (.ifCond .ne 13, 3) := by decide +kernel
theorem d_X_would_26 : decode b_X_would 26 = .ok (.iload_n 3, 1) := by decide +kernel
theorem d_X_would_27 : decode b_X_would 27 = .ok (.bipush 20, 2) := by decide +kernel
theorem d_X_would_29 : decode b_X_would 29 = .ok (.isub, 1) := by decide +kernel
theorem d_X_would_30 : decode b_X_would 30 = .ok (.invokestatic 96, 3) := by decide +kernel
theorem d_X_would_33 : decode b_X_would 33 = .ok (.ifCond .eq 7, 3) := by decide +kernel
theorem d_X_would_36 : decode b_X_would 36 = .ok (.iconst 1, 1) := by decide +kernel
theorem d_X_would_37 : decode b_X_would 37 = .ok (.goto 4, 3) := by decide +kernel
theorem d_X_would_40 : decode b_X_would 40 = .ok (.iconst 0, 1) := by decide +kernel
theorem d_X_would_41 : decode b_X_would 41 = .ok (.istore 5, 2) := by decide +kernel
theorem d_X_would_43 : decode b_X_would 43 = .ok (.aload 4, 2) := by decide +kernel
theorem d_X_would_45 : decode b_X_would 45 = .ok (.ifnull 8, 3) := by decide +kernel
theorem d_X_would_48 : decode b_X_would 48 = .ok (.iload 5, 2) := by decide +kernel
theorem d_X_would_50 : decode b_X_would 50 = .ok (.ifCond .ne 5, 3) := by decide +kernel
theorem d_X_would_53 : decode b_X_would 53 = .ok (.iconst (-1), 1) := by decide +kernel
theorem d_X_would_54 : decode b_X_would 54 = .ok (.ireturn, 1) := by decide +kernel
theorem d_X_would_55 : decode b_X_would 55 = .ok (.iload_n 2, 1) := by decide +kernel
theorem d_X_would_56 : decode b_X_would 56 = .ok (.invokestatic 146, 3) := by decide +kernel
theorem d_X_would_59 : decode b_X_would 59 = .ok (.ifCond .ne 6, 3) := by decide +kernel
theorem d_X_would_62 : decode b_X_would 62 = .ok (.bipush (-2), 2) := by decide +kernel
theorem d_X_would_64 : decode b_X_would 64 = .ok (.ireturn, 1) := by decide +kernel
theorem d_X_would_65 : decode b_X_would 65 = .ok (.aload_n 0, 1) := by decide +kernel
theorem d_X_would_66 : decode b_X_would 66 = .ok (.getfield 40, 3) := by decide +kernel
theorem d_X_would_69 : decode b_X_would 69 = .ok (.aload_n 0, 1) := by decide +kernel
theorem d_X_would_70 : decode b_X_would 70 = .ok (.getfield 23, 3) := by decide +kernel
theorem d_X_would_73 : decode b_X_would 73 = .ok (.aload 4, 2) := by decide +kernel
theorem d_X_would_75 : decode b_X_would 75 = .ok (.iload_n 2, 1) := by decide +kernel
theorem d_X_would_76 : decode b_X_would 76 = .ok (.invokevirtual 149, 3) := by decide +kernel
theorem d_X_would_79 : decode b_X_would 79 = .ok (.ifCond .ne 6, 3) := by decide +kernel
theorem d_X_would_82 : decode b_X_would 82 = .ok (.bipush (-5), 2) := by decide +kernel
theorem d_X_would_84 : decode b_X_would 84 = .ok (.ireturn, 1) := by decide +kernel
theorem d_X_would_85 : decode b_X_would 85 = .ok (.iload_n 3, 1) := by decide +kernel
theorem d_X_would_86 : decode b_X_would 86 = .ok (.bipush 10, 2) := by decide +kernel
theorem d_X_would_88 : decode b_X_would 88 = .ok (.isub, 1) := by decide +kernel
theorem d_X_would_89 : decode b_X_would 89 = .ok (.invokestatic 96, 3) := by decide +kernel
theorem d_X_would_92 : decode b_X_would 92 = .ok (.ifCond .eq 16, 3) := by decide +kernel
theorem d_X_would_95 : decode b_X_would 95 = .ok (.aload_n 0, 1) := by decide +kernel
theorem d_X_would_96 : decode b_X_would 96 = .ok (.getfield 40, 3) := by decide +kernel
theorem d_X_would_99 : decode b_X_would 99 = .ok (.getfield 158, 3) := by decide +kernel
theorem d_X_would_102 : decode b_X_would 102 = .ok (.iload_n 3, 1) := by decide +kernel
theorem d_X_would_103 : decode b_X_would 103 = .ok (.bipush 10, 2) := by decide +kernel
theorem d_X_would_105 : decode b_X_would 105 = .ok (.isub, 1) := by decide +kernel
theorem d_X_would_106 : decode b_X_would 106 = .ok (.iaload, 1) := by decide +kernel
theorem d_X_would_107 : decode b_X_would 107 = .ok (.ireturn, 1) := by decide +kernel
theorem d_X_would_108 : decode b_X_would 108 = .ok (.iload_n 3, 1) := by decide +kernel
theorem d_X_would_109 : decode b_X_would 109 = .ok (.bipush 20, 2) := by decide +kernel
theorem d_X_would_111 : decode b_X_would 111 = .ok (.isub, 1) := by decide +kernel
theorem d_X_would_112 : decode b_X_would 112 = .ok (.invokestatic 96, 3) := by decide +kernel
theorem d_X_would_115 : decode b_X_would 115 = .ok (.ifCond .eq 16, 3) := by decide +kernel
theorem d_X_would_118 : decode b_X_would 118 = .ok (.aload_n 0, 1) := by decide +kernel
theorem d_X_would_119 : decode b_X_would 119 = .ok (.getfield 40, 3) := by decide +kernel
theorem d_X_would_122 : decode b_X_would 122 = .ok (.getfield 161, 3) := by decide +kernel
theorem d_X_would_125 : decode b_X_would 125 = .ok (.iload_n 3, 1) := by decide +kernel
theorem d_X_would_126 : decode b_X_would 126 = .ok (.bipush 20, 2) := by decide +kernel
theorem d_X_would_128 : decode b_X_would 128 = .ok (.isub, 1) := by decide +kernel
theorem d_X_would_129 : decode b_X_would 129 = .ok (.iaload, 1) := by decide +kernel
theorem d_X_would_130 : decode b_X_would 130 = .ok (.ireturn, 1) := by decide +kernel
theorem d_X_would_131 : decode b_X_would 131 = .ok (.iload_n 3, 1) := by decide +kernel
theorem d_X_would_132 : decode b_X_would 132 = .ok (.ifCond .ne 11, 3) := by decide +kernel
theorem d_X_would_135 : decode b_X_would 135 = .ok (.aload_n 0, 1) := by decide +kernel
theorem d_X_would_136 : decode b_X_would 136 = .ok (.getfield 40, 3) := by decide +kernel
theorem d_X_would_139 : decode b_X_would 139 = .ok (.getfield 164, 3) := by decide +kernel
theorem d_X_would_142 : decode b_X_would 142 = .ok (.ireturn, 1) := by decide +kernel
theorem d_X_would_143 : decode b_X_would 143 = .ok (.iload_n 3, 1) := by decide +kernel
theorem d_X_would_144 : decode b_X_would 144 = .ok (.iconst 1, 1) := by decide +kernel
theorem d_X_would_145 : decode b_X_would 145 = .ok (.if_icmp .ne 13, 3) := by decide +kernel
theorem d_X_would_148 : decode b_X_would 148 = .ok (.aload_n 0, 1) := by decide +kernel
theorem d_X_would_149 : decode b_X_would 149 = .ok (.getfield 40, 3) := by decide +kernel
theorem d_X_would_152 : decode b_X_would 152 = .ok (.invokevirtual 167, 3) := by decide +kernel
theorem d_X_would_155 : decode b_X_would 155 = .ok (.goto 10, 3) := by decide +kernel
theorem d_X_would_158 : decode b_X_would 158 = .ok (.aload_n 0, 1) := by decide +kernel
theorem d_X_would_159 : decode b_X_would 159 = .ok (.getfield 40, 3) := by decide +kernel
theorem d_X_would_162 : decode b_X_would 162 = .ok (.invokevirtual 171, 3) := by decide +kernel
theorem d_X_would_165 : decode b_X_would 165 = .ok (.ireturn, 1) := by decide +kernel
set_option maxRecDepth 20000 in
theorem c_X_would_b41n4 {r : Int32} {wz : gW} (C : gC p s m args meth c "RidCoppers" b_X_would 6 (some .int) D cA oc B) (a0 : Nat) (a2 : Int32) (a3 : Int32) (z0 : Int32) (w : gW) {ls : Array Slot} {H : Heap} {locs : List Loc} (hl : lv_has ls 6 [(0, .ref (B + a0)), (2, .int a2), (3, .int a3), (4, .null)]) (hf : f_X_would_b41n4 N a0 a2 a3 z0 w = some (r, wz)) (hR : gRep D cA B w H) (hS : va_S (gA B) s.heap H locs) : W p l e ({ frames := 7, cells := 0, slots := 0, locals := 193 } : Room) s m args below meth c H locs 0 0 (MQ below (gQi D cA B r wz) args s 0 0 (gA B)) (F0 m 41 ls [.int z0]) := by
  obtain ⟨hx, hb, hml, hown, hts, hr, hlocks, hK, hBs⟩ := id C
  unfold f_X_would_b41n4 at hf
  refine lv_istore (lv' := [(5, .int z0), (0, .ref (B + a0)), (2, .int a2), (3, .int a3), (4, .null)]) hx hb d_X_would_41 hl (by decide) rfl (fun ls hl => ?_)
  refine lv_aloadN hx hb d_X_would_43 (lv_at hl 4 rfl) ?_
  refine lv_ifnullN (tgt := 53) hx hb d_X_would_45 (by decide) ?_
  refine lv_iconst (v := (-1)) hx hb d_X_would_53 (by decide) ?_
  exact g_iret hx hb hr hlocks hR hS hf rfl d_X_would_54
set_option maxRecDepth 20000 in
theorem c_X_would_b36n4 {r : Int32} {wz : gW} (C : gC p s m args meth c "RidCoppers" b_X_would 6 (some .int) D cA oc B) (a0 : Nat) (a2 : Int32) (a3 : Int32) (w : gW) {ls : Array Slot} {H : Heap} {locs : List Loc} (hl : lv_has ls 6 [(0, .ref (B + a0)), (2, .int a2), (3, .int a3), (4, .null)]) (hf : f_X_would_b36n4 N a0 a2 a3 w = some (r, wz)) (hR : gRep D cA B w H) (hS : va_S (gA B) s.heap H locs) : W p l e ({ frames := 7, cells := 0, slots := 0, locals := 193 } : Room) s m args below meth c H locs 0 0 (MQ below (gQi D cA B r wz) args s 0 0 (gA B)) (F0 m 36 ls []) := by
  obtain ⟨hx, hb, hml, hown, hts, hr, hlocks, hK, hBs⟩ := id C
  unfold f_X_would_b36n4 at hf
  refine lv_iconst (v := 1) hx hb d_X_would_36 (by decide) ?_
  refine lv_goto (tgt := 41) hx hb d_X_would_37 (by decide) ?_
  exact c_X_would_b41n4 C a0 a2 a3 1 w (lv_sub hl [0, 1, 2, 3] rfl) hf hR hS
set_option maxRecDepth 20000 in
theorem c_X_would_b16n4 {r : Int32} {wz : gW} (C : gC p s m args meth c "RidCoppers" b_X_would 6 (some .int) D cA oc B) (a0 : Nat) (a2 : Int32) (a3 : Int32) (w : gW) {ls : Array Slot} {H : Heap} {locs : List Loc} (hl : lv_has ls 6 [(0, .ref (B + a0)), (2, .int a2), (3, .int a3), (4, .null)]) (hf : f_X_would_b16n4 N a0 a2 a3 w = some (r, wz)) (hR : gRep D cA B w H) (hS : va_S (gA B) s.heap H locs) : W p l e ({ frames := 7, cells := 0, slots := 0, locals := 193 } : Room) s m args below meth c H locs 0 0 (MQ below (gQi D cA B r wz) args s 0 0 (gA B)) (F0 m 16 ls []) := by
  obtain ⟨hx, hb, hml, hown, hts, hr, hlocks, hK, hBs⟩ := id C
  unfold f_X_would_b16n4 at hf
  refine lv_iload_n hx hb d_X_would_16 rfl (lv_at hl 2 rfl) ?_
  refine lv_bipush (v := 10) hx hb d_X_would_17 (by decide) ?_
  refine lv_isub hx hb d_X_would_19 ?_
  refine g_nI hf (fun x7 hf => ?_)
  have ⟨x8, w9, h10, hf⟩ := kl_e hf
  refine g_ki0 (g_rS (As := [.int x7]) (rest := []) hx hb hml hown hts hK hR hS (c_X_isSort l D cA oc B N x7 w h10) I_X_isSort m_378 rfl rfl (Nat.le_of_ble_eq_true rfl) hl.1 ⟨Nat.le_of_ble_eq_true rfl, Nat.le_of_ble_eq_true rfl⟩ ⟨Nat.le_of_ble_eq_true rfl, Nat.le_of_ble_eq_true rfl⟩ d_X_would_20) hS (fun H locs hR hS => ?_)
  refine lv_if_ne (tgt := 36) hx hb d_X_would_23 (by decide) (fun hc => ?_) (fun hc => ?_)
  · have hf := cd_f hc hf
    exact c_X_would_b36n4 C a0 a2 a3 w9 (lv_sub hl [0, 1, 2, 3] rfl) hf hR hS
  have hf := cd_t hc hf
  refine lv_iload_n hx hb d_X_would_26 rfl (lv_at hl 2 rfl) ?_
  refine lv_bipush (v := 20) hx hb d_X_would_27 (by decide) ?_
  refine lv_isub hx hb d_X_would_29 ?_
  refine g_nI hf (fun x11 hf => ?_)
  have ⟨x12, w13, h14, hf⟩ := kl_e hf
  refine g_ki0 (g_rS (As := [.int x11]) (rest := []) hx hb hml hown hts hK hR hS (c_X_isSort l D cA oc B N x11 w9 h14) I_X_isSort m_378 rfl rfl (Nat.le_of_ble_eq_true rfl) hl.1 ⟨Nat.le_of_ble_eq_true rfl, Nat.le_of_ble_eq_true rfl⟩ ⟨Nat.le_of_ble_eq_true rfl, Nat.le_of_ble_eq_true rfl⟩ d_X_would_30) hS (fun H locs hR hS => ?_)
  refine lv_if_eq (tgt := 40) hx hb d_X_would_33 (by decide) (fun hc => ?_) (fun hc => ?_)
  · have hf := cd_t hc hf
    refine lv_iconst (v := 0) hx hb d_X_would_40 (by decide) ?_
    exact c_X_would_b41n4 C a0 a2 a3 0 w13 (lv_sub hl [0, 1, 2, 3] rfl) hf hR hS
  have hf := cd_f hc hf
  exact c_X_would_b36n4 C a0 a2 a3 w13 (lv_sub hl [0, 1, 2, 3] rfl) hf hR hS
set_option maxRecDepth 20000 in
theorem c_X_would_b41 {r : Int32} {wz : gW} (C : gC p s m args meth c "RidCoppers" b_X_would 6 (some .int) D cA oc B) (a0 : Nat) (a2 : Int32) (a3 : Int32) (a4 : Nat) (z0 : Int32) (w : gW) {ls : Array Slot} {H : Heap} {locs : List Loc} (hl : lv_has ls 6 [(0, .ref (B + a0)), (2, .int a2), (3, .int a3), (4, .ref (B + a4))]) (hf : f_X_would_b41 N a0 a2 a3 a4 z0 w = some (r, wz)) (hR : gRep D cA B w H) (hS : va_S (gA B) s.heap H locs) : W p l e ({ frames := 7, cells := 0, slots := 0, locals := 193 } : Room) s m args below meth c H locs 0 0 (MQ below (gQi D cA B r wz) args s 0 0 (gA B)) (F0 m 41 ls [.int z0]) := by
  obtain ⟨hx, hb, hml, hown, hts, hr, hlocks, hK, hBs⟩ := id C
  unfold f_X_would_b41 at hf
  refine lv_istore (lv' := [(5, .int z0), (0, .ref (B + a0)), (2, .int a2), (3, .int a3), (4, .ref (B + a4))]) hx hb d_X_would_41 hl (by decide) rfl (fun ls hl => ?_)
  refine lv_aload hx hb d_X_would_43 (lv_at hl 4 rfl) ?_
  refine lv_ifnull hx hb d_X_would_45 ?_
  refine lv_iload hx hb d_X_would_48 (lv_at hl 0 rfl) ?_
  refine lv_if_ne (tgt := 55) hx hb d_X_would_50 (by decide) (fun hc => ?_) (fun hc => ?_)
  · have hf := cd_f hc hf
    refine lv_iload_n hx hb d_X_would_55 rfl (lv_at hl 2 rfl) ?_
    have ⟨x19, w20, h21, hf⟩ := kl_e hf
    refine g_ki0 (g_rS (As := [.int a2]) (rest := []) hx hb hml hown hts hK hR hS (c_X_isPrice l D cA oc B N a2 w h21) I_X_isPrice m_615 rfl rfl (Nat.le_of_ble_eq_true rfl) hl.1 ⟨Nat.le_of_ble_eq_true rfl, Nat.le_of_ble_eq_true rfl⟩ ⟨Nat.le_of_ble_eq_true rfl, Nat.le_of_ble_eq_true rfl⟩ d_X_would_56) hS (fun H locs hR hS => ?_)
    refine lv_if_ne (tgt := 65) hx hb d_X_would_59 (by decide) (fun hc => ?_) (fun hc => ?_)
    · have hf := cd_f hc hf
      refine lv_aload_n hx hb d_X_would_65 rfl (lv_at hl 1 rfl) ?_
      have ⟨h22, hf⟩ := gd_e hf
      have ⟨x23, h24, hf⟩ := rr_e hf
      refine g_getR hx hb hts hown hK hR fl_X_40 (fun _ => rfl) h22 h24 d_X_would_66 ?_
      refine lv_aload_n hx hb d_X_would_69 rfl (lv_at hl 1 rfl) ?_
      have ⟨x25, h26, hf⟩ := rr_e hf
      refine g_getR hx hb hts hown hK hR fl_X_23 (fun _ => rfl) h22 h26 d_X_would_70 ?_
      refine lv_aload hx hb d_X_would_73 (lv_at hl 4 rfl) ?_
      refine lv_iload_n hx hb d_X_would_75 rfl (lv_at hl 2 rfl) ?_
      have ⟨h30, hf⟩ := gd_e hf
      have ⟨x27, w28, h29, hf⟩ := kl_e hf
      refine g_ki0 (g_rV (As := [.ref (B + x25), .ref (B + a4), .int a2]) (rest := []) hx hb hml hown hts hK hR hS (c_Pm_choose l D cA oc B N x23 x25 a4 a2 w20 h29) I_Pm_choose m_618 m_620 (gRecv hK hR (ci := 10) rfl h30) rfl rfl (Nat.le_of_ble_eq_true rfl) hl.1 ⟨Nat.le_of_ble_eq_true rfl, Nat.le_of_ble_eq_true rfl⟩ ⟨Nat.le_of_ble_eq_true rfl, Nat.le_of_ble_eq_true rfl⟩ d_X_would_76) hS (fun H locs hR hS => ?_)
      refine lv_if_ne (tgt := 85) hx hb d_X_would_79 (by decide) (fun hc => ?_) (fun hc => ?_)
      · have hf := cd_f hc hf
        refine lv_iload_n hx hb d_X_would_85 rfl (lv_at hl 3 rfl) ?_
        refine lv_bipush (v := 10) hx hb d_X_would_86 (by decide) ?_
        refine lv_isub hx hb d_X_would_88 ?_
        refine g_nI hf (fun x31 hf => ?_)
        have ⟨x32, w33, h34, hf⟩ := kl_e hf
        refine g_ki0 (g_rS (As := [.int x31]) (rest := []) hx hb hml hown hts hK hR hS (c_X_isSort l D cA oc B N x31 w28 h34) I_X_isSort m_378 rfl rfl (Nat.le_of_ble_eq_true rfl) hl.1 ⟨Nat.le_of_ble_eq_true rfl, Nat.le_of_ble_eq_true rfl⟩ ⟨Nat.le_of_ble_eq_true rfl, Nat.le_of_ble_eq_true rfl⟩ d_X_would_89) hS (fun H locs hR hS => ?_)
        refine lv_if_eq (tgt := 108) hx hb d_X_would_92 (by decide) (fun hc => ?_) (fun hc => ?_)
        · have hf := cd_t hc hf
          refine lv_iload_n hx hb d_X_would_108 rfl (lv_at hl 3 rfl) ?_
          refine lv_bipush (v := 20) hx hb d_X_would_109 (by decide) ?_
          refine lv_isub hx hb d_X_would_111 ?_
          refine g_nI hf (fun x35 hf => ?_)
          have ⟨x36, w37, h38, hf⟩ := kl_e hf
          refine g_ki0 (g_rS (As := [.int x35]) (rest := []) hx hb hml hown hts hK hR hS (c_X_isSort l D cA oc B N x35 w33 h38) I_X_isSort m_378 rfl rfl (Nat.le_of_ble_eq_true rfl) hl.1 ⟨Nat.le_of_ble_eq_true rfl, Nat.le_of_ble_eq_true rfl⟩ ⟨Nat.le_of_ble_eq_true rfl, Nat.le_of_ble_eq_true rfl⟩ d_X_would_112) hS (fun H locs hR hS => ?_)
          refine lv_if_eq (tgt := 131) hx hb d_X_would_115 (by decide) (fun hc => ?_) (fun hc => ?_)
          · have hf := cd_t hc hf
            refine lv_iload_n hx hb d_X_would_131 rfl (lv_at hl 3 rfl) ?_
            refine lv_if_ne (tgt := 143) hx hb d_X_would_132 (by decide) (fun hc => ?_) (fun hc => ?_)
            · have hf := cd_f hc hf
              refine lv_iload_n hx hb d_X_would_143 rfl (lv_at hl 3 rfl) ?_
              refine lv_iconst (v := 1) hx hb d_X_would_144 (by decide) ?_
              refine lv_icmp_ne (tgt := 158) hx hb d_X_would_145 (by decide) (fun hc => ?_) (fun hc => ?_)
              · have hf := cd_f hc hf
                refine lv_aload_n hx hb d_X_would_158 rfl (lv_at hl 1 rfl) ?_
                have ⟨h39, hf⟩ := gd_e hf
                have ⟨x40, h41, hf⟩ := rr_e hf
                refine g_getR hx hb hts hown hK hR fl_X_40 (fun _ => rfl) h39 h41 d_X_would_159 ?_
                have ⟨h45, hf⟩ := gd_e hf
                have ⟨x42, w43, h44, hf⟩ := kl_e hf
                refine g_ki0 (g_rV (As := []) (rest := []) hx hb hml hown hts hK hR hS (c_Pm_weightBehind l D cA oc B N x40 w37 h44) I_Pm_weightBehind m_728 m_676 (gRecv hK hR (ci := 10) rfl h45) rfl rfl (Nat.le_of_ble_eq_true rfl) hl.1 ⟨Nat.le_of_ble_eq_true rfl, Nat.le_of_ble_eq_true rfl⟩ ⟨Nat.le_of_ble_eq_true rfl, Nat.le_of_ble_eq_true rfl⟩ d_X_would_162) hS (fun H locs hR hS => ?_)
                exact g_iret hx hb hr hlocks hR hS hf rfl d_X_would_165
              have hf := cd_t hc hf
              refine lv_aload_n hx hb d_X_would_148 rfl (lv_at hl 1 rfl) ?_
              have ⟨h46, hf⟩ := gd_e hf
              have ⟨x47, h48, hf⟩ := rr_e hf
              refine g_getR hx hb hts hown hK hR fl_X_40 (fun _ => rfl) h46 h48 d_X_would_149 ?_
              have ⟨h52, hf⟩ := gd_e hf
              have ⟨x49, w50, h51, hf⟩ := kl_e hf
              refine g_ki0 (g_rV (As := []) (rest := []) hx hb hml hown hts hK hR hS (c_Pm_coinsBehind l D cA oc B N x47 w37 h51) I_Pm_coinsBehind m_723 m_725 (gRecv hK hR (ci := 10) rfl h52) rfl rfl (Nat.le_of_ble_eq_true rfl) hl.1 ⟨Nat.le_of_ble_eq_true rfl, Nat.le_of_ble_eq_true rfl⟩ ⟨Nat.le_of_ble_eq_true rfl, Nat.le_of_ble_eq_true rfl⟩ d_X_would_152) hS (fun H locs hR hS => ?_)
              refine lv_goto (tgt := 165) hx hb d_X_would_155 (by decide) ?_
              exact g_iret hx hb hr hlocks hR hS hf rfl d_X_would_165
            have hf := cd_t hc hf
            refine lv_aload_n hx hb d_X_would_135 rfl (lv_at hl 1 rfl) ?_
            have ⟨h53, hf⟩ := gd_e hf
            have ⟨x54, h55, hf⟩ := rr_e hf
            refine g_getR hx hb hts hown hK hR fl_X_40 (fun _ => rfl) h53 h55 d_X_would_136 ?_
            have ⟨h56, hf⟩ := gd_e hf
            refine g_getI hx hb hts hown hK hR fl_X_164 (fun _ => rfl) h56 d_X_would_139 ?_
            refine g_nI hf (fun x57 hf => ?_)
            exact g_iret hx hb hr hlocks hR hS hf rfl d_X_would_142
          have hf := cd_f hc hf
          refine lv_aload_n hx hb d_X_would_118 rfl (lv_at hl 1 rfl) ?_
          have ⟨h58, hf⟩ := gd_e hf
          have ⟨x59, h60, hf⟩ := rr_e hf
          refine g_getR hx hb hts hown hK hR fl_X_40 (fun _ => rfl) h58 h60 d_X_would_119 ?_
          have ⟨h61, hf⟩ := gd_e hf
          have ⟨x62, h63, hf⟩ := rr_e hf
          refine g_getR hx hb hts hown hK hR fl_X_161 (fun _ => rfl) h61 h63 d_X_would_122 ?_
          refine lv_iload_n hx hb d_X_would_125 rfl (lv_at hl 3 rfl) ?_
          refine lv_bipush (v := 20) hx hb d_X_would_126 (by decide) ?_
          refine lv_isub hx hb d_X_would_128 ?_
          refine g_nI hf (fun x64 hf => ?_)
          have ⟨h65, hf⟩ := gd_e hf
          have ⟨h66, hf⟩ := gd_e hf
          refine g_iald hx hb hK hR h65 h66 d_X_would_129 ?_
          refine g_nI hf (fun x67 hf => ?_)
          exact g_iret hx hb hr hlocks hR hS hf rfl d_X_would_130
        have hf := cd_f hc hf
        refine lv_aload_n hx hb d_X_would_95 rfl (lv_at hl 1 rfl) ?_
        have ⟨h68, hf⟩ := gd_e hf
        have ⟨x69, h70, hf⟩ := rr_e hf
        refine g_getR hx hb hts hown hK hR fl_X_40 (fun _ => rfl) h68 h70 d_X_would_96 ?_
        have ⟨h71, hf⟩ := gd_e hf
        have ⟨x72, h73, hf⟩ := rr_e hf
        refine g_getR hx hb hts hown hK hR fl_X_158 (fun _ => rfl) h71 h73 d_X_would_99 ?_
        refine lv_iload_n hx hb d_X_would_102 rfl (lv_at hl 3 rfl) ?_
        refine lv_bipush (v := 10) hx hb d_X_would_103 (by decide) ?_
        refine lv_isub hx hb d_X_would_105 ?_
        refine g_nI hf (fun x74 hf => ?_)
        have ⟨h75, hf⟩ := gd_e hf
        have ⟨h76, hf⟩ := gd_e hf
        refine g_iald hx hb hK hR h75 h76 d_X_would_106 ?_
        refine g_nI hf (fun x77 hf => ?_)
        exact g_iret hx hb hr hlocks hR hS hf rfl d_X_would_107
      have hf := cd_t hc hf
      refine lv_bipush (v := (-5)) hx hb d_X_would_82 (by decide) ?_
      exact g_iret hx hb hr hlocks hR hS hf rfl d_X_would_84
    have hf := cd_t hc hf
    refine lv_bipush (v := (-2)) hx hb d_X_would_62 (by decide) ?_
    exact g_iret hx hb hr hlocks hR hS hf rfl d_X_would_64
  have hf := cd_t hc hf
  refine lv_iconst (v := (-1)) hx hb d_X_would_53 (by decide) ?_
  exact g_iret hx hb hr hlocks hR hS hf rfl d_X_would_54
set_option maxRecDepth 20000 in
theorem c_X_would_b36 {r : Int32} {wz : gW} (C : gC p s m args meth c "RidCoppers" b_X_would 6 (some .int) D cA oc B) (a0 : Nat) (a2 : Int32) (a3 : Int32) (a4 : Nat) (w : gW) {ls : Array Slot} {H : Heap} {locs : List Loc} (hl : lv_has ls 6 [(0, .ref (B + a0)), (2, .int a2), (3, .int a3), (4, .ref (B + a4))]) (hf : f_X_would_b36 N a0 a2 a3 a4 w = some (r, wz)) (hR : gRep D cA B w H) (hS : va_S (gA B) s.heap H locs) : W p l e ({ frames := 7, cells := 0, slots := 0, locals := 193 } : Room) s m args below meth c H locs 0 0 (MQ below (gQi D cA B r wz) args s 0 0 (gA B)) (F0 m 36 ls []) := by
  obtain ⟨hx, hb, hml, hown, hts, hr, hlocks, hK, hBs⟩ := id C
  unfold f_X_would_b36 at hf
  refine lv_iconst (v := 1) hx hb d_X_would_36 (by decide) ?_
  refine lv_goto (tgt := 41) hx hb d_X_would_37 (by decide) ?_
  exact c_X_would_b41 C a0 a2 a3 a4 1 w (lv_sub hl [0, 1, 2, 3] rfl) hf hR hS
set_option maxRecDepth 20000 in
theorem c_X_would_b16 {r : Int32} {wz : gW} (C : gC p s m args meth c "RidCoppers" b_X_would 6 (some .int) D cA oc B) (a0 : Nat) (a2 : Int32) (a3 : Int32) (a4 : Nat) (w : gW) {ls : Array Slot} {H : Heap} {locs : List Loc} (hl : lv_has ls 6 [(0, .ref (B + a0)), (2, .int a2), (3, .int a3), (4, .ref (B + a4))]) (hf : f_X_would_b16 N a0 a2 a3 a4 w = some (r, wz)) (hR : gRep D cA B w H) (hS : va_S (gA B) s.heap H locs) : W p l e ({ frames := 7, cells := 0, slots := 0, locals := 193 } : Room) s m args below meth c H locs 0 0 (MQ below (gQi D cA B r wz) args s 0 0 (gA B)) (F0 m 16 ls []) := by
  obtain ⟨hx, hb, hml, hown, hts, hr, hlocks, hK, hBs⟩ := id C
  unfold f_X_would_b16 at hf
  refine lv_iload_n hx hb d_X_would_16 rfl (lv_at hl 2 rfl) ?_
  refine lv_bipush (v := 10) hx hb d_X_would_17 (by decide) ?_
  refine lv_isub hx hb d_X_would_19 ?_
  refine g_nI hf (fun x15 hf => ?_)
  have ⟨x16, w17, h18, hf⟩ := kl_e hf
  refine g_ki0 (g_rS (As := [.int x15]) (rest := []) hx hb hml hown hts hK hR hS (c_X_isSort l D cA oc B N x15 w h18) I_X_isSort m_378 rfl rfl (Nat.le_of_ble_eq_true rfl) hl.1 ⟨Nat.le_of_ble_eq_true rfl, Nat.le_of_ble_eq_true rfl⟩ ⟨Nat.le_of_ble_eq_true rfl, Nat.le_of_ble_eq_true rfl⟩ d_X_would_20) hS (fun H locs hR hS => ?_)
  refine lv_if_ne (tgt := 36) hx hb d_X_would_23 (by decide) (fun hc => ?_) (fun hc => ?_)
  · have hf := cd_f hc hf
    exact c_X_would_b36 C a0 a2 a3 a4 w17 (lv_sub hl [0, 1, 2, 3] rfl) hf hR hS
  have hf := cd_t hc hf
  refine lv_iload_n hx hb d_X_would_26 rfl (lv_at hl 2 rfl) ?_
  refine lv_bipush (v := 20) hx hb d_X_would_27 (by decide) ?_
  refine lv_isub hx hb d_X_would_29 ?_
  refine g_nI hf (fun x78 hf => ?_)
  have ⟨x79, w80, h81, hf⟩ := kl_e hf
  refine g_ki0 (g_rS (As := [.int x78]) (rest := []) hx hb hml hown hts hK hR hS (c_X_isSort l D cA oc B N x78 w17 h81) I_X_isSort m_378 rfl rfl (Nat.le_of_ble_eq_true rfl) hl.1 ⟨Nat.le_of_ble_eq_true rfl, Nat.le_of_ble_eq_true rfl⟩ ⟨Nat.le_of_ble_eq_true rfl, Nat.le_of_ble_eq_true rfl⟩ d_X_would_30) hS (fun H locs hR hS => ?_)
  refine lv_if_eq (tgt := 40) hx hb d_X_would_33 (by decide) (fun hc => ?_) (fun hc => ?_)
  · have hf := cd_t hc hf
    refine lv_iconst (v := 0) hx hb d_X_would_40 (by decide) ?_
    exact c_X_would_b41 C a0 a2 a3 a4 0 w80 (lv_sub hl [0, 1, 2, 3] rfl) hf hR hS
  have hf := cd_f hc hf
  exact c_X_would_b36 C a0 a2 a3 a4 w80 (lv_sub hl [0, 1, 2, 3] rfl) hf hR hS
set_option maxRecDepth 20000 in
theorem c_X_would_b0 {r : Int32} {wz : gW} (C : gC p s m args meth c "RidCoppers" b_X_would 6 (some .int) D cA oc B) (a0 : Nat) (a1 : Int32) (a2 : Int32) (a3 : Int32) (w : gW) {ls : Array Slot} {H : Heap} {locs : List Loc} (hl : lv_has ls 6 [(0, .ref (B + a0)), (1, .int a1), (2, .int a2), (3, .int a3)]) (hf : f_X_would_b0 N a0 a1 a2 a3 w = some (r, wz)) (hR : gRep D cA B w H) (hS : va_S (gA B) s.heap H locs) : W p l e ({ frames := 7, cells := 0, slots := 0, locals := 193 } : Room) s m args below meth c H locs 0 0 (MQ below (gQi D cA B r wz) args s 0 0 (gA B)) (F0 m 0 ls []) := by
  obtain ⟨hx, hb, hml, hown, hts, hr, hlocks, hK, hBs⟩ := id C
  unfold f_X_would_b0 at hf
  refine lv_aload_n hx hb d_X_would_0 rfl (lv_at hl 0 rfl) ?_
  refine lv_iload_n hx hb d_X_would_1 rfl (lv_at hl 1 rfl) ?_
  have ⟨h4, hf⟩ := gd_e hf
  have ⟨x1, w2, h3, hf⟩ := kl_e hf
  refine g_kr0 (g_rV (As := [.int a1]) (rest := []) hx hb hml hown hts hK hR hS (c_X_payerAt l D cA oc B N a0 a1 w h3) I_X_payerAt m_374 mp_0 (gRecv hK hR (ci := 11) rfl h4) rfl rfl (Nat.le_of_ble_eq_true rfl) hl.1 ⟨Nat.le_of_ble_eq_true rfl, Nat.le_of_ble_eq_true rfl⟩ ⟨Nat.le_of_ble_eq_true rfl, Nat.le_of_ble_eq_true rfl⟩ d_X_would_2) hS (fun H locs hR hS => ?_)
  rcases x1 with _ | x5
  · have hf := nr_n hf
    refine lv_astoreN (lv' := [(4, .null), (0, .ref (B + a0)), (1, .int a1), (2, .int a2), (3, .int a3)]) hx hb d_X_would_5 hl (by decide) rfl (fun ls hl => ?_)
    refine lv_iload_n hx hb d_X_would_7 rfl (lv_at hl 4 rfl) ?_
    refine lv_if_lt (tgt := 16) hx hb d_X_would_8 (by decide) (fun hc => ?_) (fun hc => ?_)
    · have hf := cd_t hc hf
      exact c_X_would_b16n4 C a0 a2 a3 w2 (lv_sub hl [1, 3, 4, 0] rfl) hf hR hS
    have hf := cd_f hc hf
    refine lv_iload_n hx hb d_X_would_11 rfl (lv_at hl 4 rfl) ?_
    refine lv_iconst (v := 2) hx hb d_X_would_12 (by decide) ?_
    refine lv_icmp_le (tgt := 36) hx hb d_X_would_13 (by decide) (fun hc => ?_) (fun hc => ?_)
    · have hf := cd_t hc hf
      exact c_X_would_b36n4 C a0 a2 a3 w2 (lv_sub hl [1, 3, 4, 0] rfl) hf hR hS
    have hf := cd_f hc hf
    exact c_X_would_b16n4 C a0 a2 a3 w2 (lv_sub hl [1, 3, 4, 0] rfl) hf hR hS
  have hf := nr_s hf
  refine lv_astore (lv' := [(4, .ref (B + x5)), (0, .ref (B + a0)), (1, .int a1), (2, .int a2), (3, .int a3)]) hx hb d_X_would_5 hl (by decide) rfl (fun ls hl => ?_)
  refine lv_iload_n hx hb d_X_would_7 rfl (lv_at hl 4 rfl) ?_
  refine lv_if_lt (tgt := 16) hx hb d_X_would_8 (by decide) (fun hc => ?_) (fun hc => ?_)
  · have hf := cd_t hc hf
    exact c_X_would_b16 C a0 a2 a3 x5 w2 (lv_sub hl [1, 3, 4, 0] rfl) hf hR hS
  have hf := cd_f hc hf
  refine lv_iload_n hx hb d_X_would_11 rfl (lv_at hl 4 rfl) ?_
  refine lv_iconst (v := 2) hx hb d_X_would_12 (by decide) ?_
  refine lv_icmp_le (tgt := 36) hx hb d_X_would_13 (by decide) (fun hc => ?_) (fun hc => ?_)
  · have hf := cd_t hc hf
    exact c_X_would_b36 C a0 a2 a3 x5 w2 (lv_sub hl [1, 3, 4, 0] rfl) hf hR hS
  have hf := cd_f hc hf
  exact c_X_would_b16 C a0 a2 a3 x5 w2 (lv_sub hl [1, 3, 4, 0] rfl) hf hR hS
theorem c_X_would (l : Launch) (D : va_G) (cA : Nat → ClassId) (oc : gO) (B N : Nat) (a0 : Nat) (a1 : Int32) (a2 : Int32) (a3 : Int32) (w : gW) {wz : gW} {r : Int32} (hf : f_X_would N a0 a1 a2 a3 w = some (r, wz)) : Met l y_X_would (Cond.code y_X_would b_X_would 6 (some .int) :: lw_good) ({ frames := 7, cells := 0, slots := 0, locals := 193 } : Room) (gPre D cA oc B [.ref (B + a0), .int a1, .int a2, .int a3] w) (gQi D cA B r wz) 0 0 (gA B) := by
  refine Met.ofW (cc := b_X_would) (maxL := 6) (ret := (some .int)) (by decide +kernel) rfl ?_
  intro p e s m args below meth c s₁ Bd hml hv
  obtain ⟨hargs, C, hR⟩ := gC.enter (l := l) rfl Bd hml hv
  subst hargs
  have hl := lv_entry ([.ref (B + a0), .int a1, .int a2, .int a3]) (n := 6) (Nat.le_of_ble_eq_true rfl)
  rw [lg_entry_eq]
  generalize (lg_sl ([.ref (B + a0), .int a1, .int a2, .int a3]) ++ List.replicate (6 - (lg_sl ([.ref (B + a0), .int a1, .int a2, .int a3])).length) Slot.unset).toArray = ls at hl ⊢
  have hl : lv_has ls 6 [(0, .ref (B + a0)), (1, .int a1), (2, .int a2), (3, .int a3)] := hl
  exact c_X_would_b0 C a0 a1 a2 a3 w (lv_sub hl [0, 1, 2, 3] rfl) hf hR va_S.rf
theorem d_X_least_0 : decode b_X_least 0 = .ok (.aload_n 0, 1) := by decide +kernel
theorem d_X_least_1 : decode b_X_least 1 = .ok (.iload_n 1, 1) := by decide +kernel
theorem d_X_least_2 : decode b_X_least 2 = .ok (.invokevirtual 92, 3) := by decide +kernel
theorem d_X_least_5 : decode b_X_least 5 = .ok (.astore 4, 2) := by decide +kernel
theorem d_X_least_7 : decode b_X_least 7 = .ok (.aload 4, 2) := by decide +kernel
theorem d_X_least_9 : decode b_X_least 9 = .ok (.ifnull 12, 3) := by decide +kernel
theorem d_X_least_12 : decode b_X_least 12 = .ok (.iload_n 3, 1) := by decide +kernel
theorem d_X_least_13 : decode b_X_least 13 = .ok (.ifCond .lt 8, 3) := by decide +kernel
theorem d_X_least_16 : decode b_X_least 16 = .ok (.iload_n 3, 1) := by decide +kernel
theorem d_X_least_17 : decode b_X_least 17 = .ok (.iconst 1, 1) := by decide +kernel
theorem d_X_least_18 : decode b_X_least 18 = .ok (.if_icmp .le 5, 3) := by decide +kernel
theorem d_X_least_21 : decode b_X_least 21 = .ok (.iconst (-1), 1) := by decide +kernel
theorem d_X_least_22 : decode b_X_least 22 = .ok (.ireturn, 1) := by decide +kernel
theorem d_X_least_23 : decode b_X_least 23 = .ok (.iload_n 2, 1) := by decide +kernel
theorem d_X_least_24 : decode b_X_least 24 = .ok (.invokestatic 146, 3) := by decide +kernel
theorem d_X_least_27 : decode b_X_least 27 = .ok (.ifCond .ne 6, 3) := by decide +kernel
theorem d_X_least_30 : decode b_X_least 30 = .ok (.bipush (-2), 2) := by decide +kernel
theorem d_X_least_32 : decode b_X_least 32 = .ok (.ireturn, 1) := by decide +kernel
theorem d_X_least_33 : decode b_X_least 33 = .ok (.aload_n 0, 1) := by decide +kernel
theorem d_X_least_34 : decode b_X_least 34 = .ok (.getfield 40, 3) := by decide +kernel
theorem d_X_least_37 : decode b_X_least 37 = .ok (.aload_n 0, 1) := by decide +kernel
theorem d_X_least_38 : decode b_X_least 38 = .ok (.getfield 23, 3) := by decide +kernel
theorem d_X_least_41 : decode b_X_least 41 = .ok (.aload 4, 2) := by decide +kernel
theorem d_X_least_43 : decode b_X_least 43 = .ok (.iload_n 2, 1) := by decide +kernel
theorem d_X_least_44 : decode b_X_least 44 = .ok (.iload_n 3, 1) := by decide +kernel
theorem d_X_least_45 : decode b_X_least 45 = .ok (.ifCond .ne 7, 3) := by decide +kernel
theorem d_X_least_48 : decode b_X_least 48 = .ok (.iconst 1, 1) := by decide +kernel
theorem d_X_least_49 : decode b_X_least 49 = .ok (.goto 4, 3) := by decide +kernel
theorem d_X_least_52 : decode b_X_least 52 = .ok (.iconst 0, 1) := by decide +kernel
theorem d_X_least_53 : decode b_X_least 53 = .ok (.invokevirtual 174, 3) := by decide +kernel
theorem d_X_least_56 : decode b_X_least 56 = .ok (.ireturn, 1) := by decide +kernel
set_option maxRecDepth 20000 in
theorem c_X_least_b53 {r : Int32} {wz : gW} (C : gC p s m args meth c "RidCoppers" b_X_least 5 (some .int) D cA oc B) (z0 : Int32) (z1 : Int32) (z2 : Nat) (z3 : Nat) (z4 : Nat) (w : gW) {ls : Array Slot} {H : Heap} {locs : List Loc} (hl : lv_has ls 5 []) (hf : f_X_least_b53 N z0 z1 z2 z3 z4 w = some (r, wz)) (hR : gRep D cA B w H) (hS : va_S (gA B) s.heap H locs) : W p l e ({ frames := 7, cells := 0, slots := 0, locals := 189 } : Room) s m args below meth c H locs 0 0 (MQ below (gQi D cA B r wz) args s 0 0 (gA B)) (F0 m 53 ls [.int z0, .int z1, .ref (B + z2), .ref (B + z3), .ref (B + z4)]) := by
  obtain ⟨hx, hb, hml, hown, hts, hr, hlocks, hK, hBs⟩ := id C
  unfold f_X_least_b53 at hf
  have ⟨h18, hf⟩ := gd_e hf
  have ⟨x15, w16, h17, hf⟩ := kl_e hf
  refine g_ki0 (g_rV (As := [.ref (B + z3), .ref (B + z2), .int z1, .int z0]) (rest := []) hx hb hml hown hts hK hR hS (c_Pm_leastBehind l D cA oc B N z4 z3 z2 z1 z0 w h17) I_Pm_leastBehind m_733 m_735 (gRecv hK hR (ci := 10) rfl h18) rfl rfl (Nat.le_of_ble_eq_true rfl) hl.1 ⟨Nat.le_of_ble_eq_true rfl, Nat.le_of_ble_eq_true rfl⟩ ⟨Nat.le_of_ble_eq_true rfl, Nat.le_of_ble_eq_true rfl⟩ d_X_least_53) hS (fun H locs hR hS => ?_)
  exact g_iret hx hb hr hlocks hR hS hf rfl d_X_least_56
set_option maxRecDepth 20000 in
theorem c_X_least_b0 {r : Int32} {wz : gW} (C : gC p s m args meth c "RidCoppers" b_X_least 5 (some .int) D cA oc B) (a0 : Nat) (a1 : Int32) (a2 : Int32) (a3 : Int32) (w : gW) {ls : Array Slot} {H : Heap} {locs : List Loc} (hl : lv_has ls 5 [(0, .ref (B + a0)), (1, .int a1), (2, .int a2), (3, .int a3)]) (hf : f_X_least_b0 N a0 a1 a2 a3 w = some (r, wz)) (hR : gRep D cA B w H) (hS : va_S (gA B) s.heap H locs) : W p l e ({ frames := 7, cells := 0, slots := 0, locals := 189 } : Room) s m args below meth c H locs 0 0 (MQ below (gQi D cA B r wz) args s 0 0 (gA B)) (F0 m 0 ls []) := by
  obtain ⟨hx, hb, hml, hown, hts, hr, hlocks, hK, hBs⟩ := id C
  unfold f_X_least_b0 at hf
  refine lv_aload_n hx hb d_X_least_0 rfl (lv_at hl 0 rfl) ?_
  refine lv_iload_n hx hb d_X_least_1 rfl (lv_at hl 1 rfl) ?_
  have ⟨h4, hf⟩ := gd_e hf
  have ⟨x1, w2, h3, hf⟩ := kl_e hf
  refine g_kr0 (g_rV (As := [.int a1]) (rest := []) hx hb hml hown hts hK hR hS (c_X_payerAt l D cA oc B N a0 a1 w h3) I_X_payerAt m_374 mp_0 (gRecv hK hR (ci := 11) rfl h4) rfl rfl (Nat.le_of_ble_eq_true rfl) hl.1 ⟨Nat.le_of_ble_eq_true rfl, Nat.le_of_ble_eq_true rfl⟩ ⟨Nat.le_of_ble_eq_true rfl, Nat.le_of_ble_eq_true rfl⟩ d_X_least_2) hS (fun H locs hR hS => ?_)
  rcases x1 with _ | x5
  · have hf := nr_n hf
    refine lv_astoreN (lv' := [(4, .null), (0, .ref (B + a0)), (1, .int a1), (2, .int a2), (3, .int a3)]) hx hb d_X_least_5 hl (by decide) rfl (fun ls hl => ?_)
    refine lv_aloadN hx hb d_X_least_7 (lv_at hl 0 rfl) ?_
    refine lv_ifnullN (tgt := 21) hx hb d_X_least_9 (by decide) ?_
    refine lv_iconst (v := (-1)) hx hb d_X_least_21 (by decide) ?_
    exact g_iret hx hb hr hlocks hR hS hf rfl d_X_least_22
  have hf := nr_s hf
  refine lv_astore (lv' := [(4, .ref (B + x5)), (0, .ref (B + a0)), (1, .int a1), (2, .int a2), (3, .int a3)]) hx hb d_X_least_5 hl (by decide) rfl (fun ls hl => ?_)
  refine lv_aload hx hb d_X_least_7 (lv_at hl 0 rfl) ?_
  refine lv_ifnull hx hb d_X_least_9 ?_
  refine lv_iload_n hx hb d_X_least_12 rfl (lv_at hl 4 rfl) ?_
  refine lv_if_lt (tgt := 21) hx hb d_X_least_13 (by decide) (fun hc => ?_) (fun hc => ?_)
  · have hf := cd_t hc hf
    refine lv_iconst (v := (-1)) hx hb d_X_least_21 (by decide) ?_
    exact g_iret hx hb hr hlocks hR hS hf rfl d_X_least_22
  have hf := cd_f hc hf
  refine lv_iload_n hx hb d_X_least_16 rfl (lv_at hl 4 rfl) ?_
  refine lv_iconst (v := 1) hx hb d_X_least_17 (by decide) ?_
  refine lv_icmp_le (tgt := 23) hx hb d_X_least_18 (by decide) (fun hc => ?_) (fun hc => ?_)
  · have hf := cd_t hc hf
    refine lv_iload_n hx hb d_X_least_23 rfl (lv_at hl 3 rfl) ?_
    have ⟨x7, w8, h9, hf⟩ := kl_e hf
    refine g_ki0 (g_rS (As := [.int a2]) (rest := []) hx hb hml hown hts hK hR hS (c_X_isPrice l D cA oc B N a2 w2 h9) I_X_isPrice m_615 rfl rfl (Nat.le_of_ble_eq_true rfl) hl.1 ⟨Nat.le_of_ble_eq_true rfl, Nat.le_of_ble_eq_true rfl⟩ ⟨Nat.le_of_ble_eq_true rfl, Nat.le_of_ble_eq_true rfl⟩ d_X_least_24) hS (fun H locs hR hS => ?_)
    refine lv_if_ne (tgt := 33) hx hb d_X_least_27 (by decide) (fun hc => ?_) (fun hc => ?_)
    · have hf := cd_f hc hf
      refine lv_aload_n hx hb d_X_least_33 rfl (lv_at hl 1 rfl) ?_
      have ⟨h10, hf⟩ := gd_e hf
      have ⟨x11, h12, hf⟩ := rr_e hf
      refine g_getR hx hb hts hown hK hR fl_X_40 (fun _ => rfl) h10 h12 d_X_least_34 ?_
      refine lv_aload_n hx hb d_X_least_37 rfl (lv_at hl 1 rfl) ?_
      have ⟨x13, h14, hf⟩ := rr_e hf
      refine g_getR hx hb hts hown hK hR fl_X_23 (fun _ => rfl) h10 h14 d_X_least_38 ?_
      refine lv_aload hx hb d_X_least_41 (lv_at hl 0 rfl) ?_
      refine lv_iload_n hx hb d_X_least_43 rfl (lv_at hl 3 rfl) ?_
      refine lv_iload_n hx hb d_X_least_44 rfl (lv_at hl 4 rfl) ?_
      refine lv_if_ne (tgt := 52) hx hb d_X_least_45 (by decide) (fun hc => ?_) (fun hc => ?_)
      · have hf := cd_f hc hf
        refine lv_iconst (v := 0) hx hb d_X_least_52 (by decide) ?_
        exact c_X_least_b53 C 0 a2 x5 x13 x11 w8 (lv_sub hl [] rfl) hf hR hS
      have hf := cd_t hc hf
      refine lv_iconst (v := 1) hx hb d_X_least_48 (by decide) ?_
      refine lv_goto (tgt := 53) hx hb d_X_least_49 (by decide) ?_
      exact c_X_least_b53 C 1 a2 x5 x13 x11 w8 (lv_sub hl [] rfl) hf hR hS
    have hf := cd_t hc hf
    refine lv_bipush (v := (-2)) hx hb d_X_least_30 (by decide) ?_
    exact g_iret hx hb hr hlocks hR hS hf rfl d_X_least_32
  have hf := cd_f hc hf
  refine lv_iconst (v := (-1)) hx hb d_X_least_21 (by decide) ?_
  exact g_iret hx hb hr hlocks hR hS hf rfl d_X_least_22
theorem c_X_least (l : Launch) (D : va_G) (cA : Nat → ClassId) (oc : gO) (B N : Nat) (a0 : Nat) (a1 : Int32) (a2 : Int32) (a3 : Int32) (w : gW) {wz : gW} {r : Int32} (hf : f_X_least N a0 a1 a2 a3 w = some (r, wz)) : Met l y_X_least (Cond.code y_X_least b_X_least 5 (some .int) :: lw_good) ({ frames := 7, cells := 0, slots := 0, locals := 189 } : Room) (gPre D cA oc B [.ref (B + a0), .int a1, .int a2, .int a3] w) (gQi D cA B r wz) 0 0 (gA B) := by
  refine Met.ofW (cc := b_X_least) (maxL := 5) (ret := (some .int)) (by decide +kernel) rfl ?_
  intro p e s m args below meth c s₁ Bd hml hv
  obtain ⟨hargs, C, hR⟩ := gC.enter (l := l) rfl Bd hml hv
  subst hargs
  have hl := lv_entry ([.ref (B + a0), .int a1, .int a2, .int a3]) (n := 5) (Nat.le_of_ble_eq_true rfl)
  rw [lg_entry_eq]
  generalize (lg_sl ([.ref (B + a0), .int a1, .int a2, .int a3]) ++ List.replicate (5 - (lg_sl ([.ref (B + a0), .int a1, .int a2, .int a3])).length) Slot.unset).toArray = ls at hl ⊢
  have hl : lv_has ls 5 [(0, .ref (B + a0)), (1, .int a1), (2, .int a2), (3, .int a3)] := hl
  exact c_X_least_b0 C a0 a1 a2 a3 w (lv_sub hl [0, 1, 2, 3] rfl) hf hR va_S.rf
theorem d_X_exactly_0 : decode b_X_exactly 0 = .ok (.aload_n 0, 1) := by decide +kernel
theorem d_X_exactly_1 : decode b_X_exactly 1 = .ok (.iload_n 1, 1) := by decide +kernel
theorem d_X_exactly_2 : decode b_X_exactly 2 = .ok (.invokevirtual 92, 3) := by decide +kernel
theorem d_X_exactly_5 : decode b_X_exactly 5 = .ok (.astore_n 2, 1) := by decide +kernel
theorem d_X_exactly_6 : decode b_X_exactly 6 = .ok (.aload_n 2, 1) := by decide +kernel
theorem d_X_exactly_7 : decode b_X_exactly 7 = .ok (.ifnonnull 7, 3) := by decide +kernel
theorem d_X_exactly_10 : decode b_X_exactly 10 = .ok (.iconst (-1), 1) := by decide +kernel
theorem d_X_exactly_11 : decode b_X_exactly 11 = .ok (.goto 15, 3) := by decide +kernel
theorem d_X_exactly_14 : decode b_X_exactly 14 = .ok (.aload_n 0, 1) := by decide +kernel
theorem d_X_exactly_15 : decode b_X_exactly 15 = .ok (.getfield 40, 3) := by decide +kernel
theorem d_X_exactly_18 : decode b_X_exactly 18 = .ok (.aload_n 0, 1) := by decide +kernel
theorem d_X_exactly_19 : decode b_X_exactly 19 = .ok (.getfield 23, 3) := by decide +kernel
theorem d_X_exactly_22 : decode b_X_exactly 22 = .ok (.aload_n 2, 1) := by decide +kernel
theorem d_X_exactly_23 : decode b_X_exactly 23 = .ok (.invokevirtual 178, 3) := by decide +kernel
theorem d_X_exactly_26 : decode b_X_exactly 26 = .ok (.ireturn, 1) := by decide +kernel
set_option maxRecDepth 20000 in
theorem c_X_exactly_b0 {r : Int32} {wz : gW} (C : gC p s m args meth c "RidCoppers" b_X_exactly 3 (some .int) D cA oc B) (a0 : Nat) (a1 : Int32) (w : gW) {ls : Array Slot} {H : Heap} {locs : List Loc} (hl : lv_has ls 3 [(0, .ref (B + a0)), (1, .int a1)]) (hf : f_X_exactly_b0 N a0 a1 w = some (r, wz)) (hR : gRep D cA B w H) (hS : va_S (gA B) s.heap H locs) : W p l e ({ frames := 7, cells := 0, slots := 0, locals := 188 } : Room) s m args below meth c H locs 0 0 (MQ below (gQi D cA B r wz) args s 0 0 (gA B)) (F0 m 0 ls []) := by
  obtain ⟨hx, hb, hml, hown, hts, hr, hlocks, hK, hBs⟩ := id C
  unfold f_X_exactly_b0 at hf
  refine lv_aload_n hx hb d_X_exactly_0 rfl (lv_at hl 0 rfl) ?_
  refine lv_iload_n hx hb d_X_exactly_1 rfl (lv_at hl 1 rfl) ?_
  have ⟨h4, hf⟩ := gd_e hf
  have ⟨x1, w2, h3, hf⟩ := kl_e hf
  refine g_kr0 (g_rV (As := [.int a1]) (rest := []) hx hb hml hown hts hK hR hS (c_X_payerAt l D cA oc B N a0 a1 w h3) I_X_payerAt m_374 mp_0 (gRecv hK hR (ci := 11) rfl h4) rfl rfl (Nat.le_of_ble_eq_true rfl) hl.1 ⟨Nat.le_of_ble_eq_true rfl, Nat.le_of_ble_eq_true rfl⟩ ⟨Nat.le_of_ble_eq_true rfl, Nat.le_of_ble_eq_true rfl⟩ d_X_exactly_2) hS (fun H locs hR hS => ?_)
  rcases x1 with _ | x5
  · have hf := nr_n hf
    refine lv_astore_nN (lv' := [(2, .null), (0, .ref (B + a0)), (1, .int a1)]) hx hb d_X_exactly_5 rfl hl (by decide) rfl (fun ls hl => ?_)
    refine lv_aload_nN hx hb d_X_exactly_6 rfl (lv_at hl 0 rfl) ?_
    refine lv_ifnonnullN hx hb d_X_exactly_7 ?_
    refine lv_iconst (v := (-1)) hx hb d_X_exactly_10 (by decide) ?_
    refine lv_goto (tgt := 26) hx hb d_X_exactly_11 (by decide) ?_
    exact g_iret hx hb hr hlocks hR hS hf rfl d_X_exactly_26
  have hf := nr_s hf
  refine lv_astore_n (lv' := [(2, .ref (B + x5)), (0, .ref (B + a0)), (1, .int a1)]) hx hb d_X_exactly_5 rfl hl (by decide) rfl (fun ls hl => ?_)
  refine lv_aload_n hx hb d_X_exactly_6 rfl (lv_at hl 0 rfl) ?_
  refine lv_ifnonnull (tgt := 14) hx hb d_X_exactly_7 (by decide) ?_
  refine lv_aload_n hx hb d_X_exactly_14 rfl (lv_at hl 1 rfl) ?_
  have ⟨h7, hf⟩ := gd_e hf
  have ⟨x8, h9, hf⟩ := rr_e hf
  refine g_getR hx hb hts hown hK hR fl_X_40 (fun _ => rfl) h7 h9 d_X_exactly_15 ?_
  refine lv_aload_n hx hb d_X_exactly_18 rfl (lv_at hl 1 rfl) ?_
  have ⟨x10, h11, hf⟩ := rr_e hf
  refine g_getR hx hb hts hown hK hR fl_X_23 (fun _ => rfl) h7 h11 d_X_exactly_19 ?_
  refine lv_aload_n hx hb d_X_exactly_22 rfl (lv_at hl 0 rfl) ?_
  have ⟨h15, hf⟩ := gd_e hf
  have ⟨x12, w13, h14, hf⟩ := kl_e hf
  refine g_ki0 (g_rV (As := [.ref (B + x10), .ref (B + x5)]) (rest := []) hx hb hml hown hts hK hR hS (c_Pm_exactPrices l D cA oc B N x8 x10 x5 w2 h14) I_Pm_exactPrices m_744 m_746 (gRecv hK hR (ci := 10) rfl h15) rfl rfl (Nat.le_of_ble_eq_true rfl) hl.1 ⟨Nat.le_of_ble_eq_true rfl, Nat.le_of_ble_eq_true rfl⟩ ⟨Nat.le_of_ble_eq_true rfl, Nat.le_of_ble_eq_true rfl⟩ d_X_exactly_23) hS (fun H locs hR hS => ?_)
  exact g_iret hx hb hr hlocks hR hS hf rfl d_X_exactly_26
theorem c_X_exactly (l : Launch) (D : va_G) (cA : Nat → ClassId) (oc : gO) (B N : Nat) (a0 : Nat) (a1 : Int32) (w : gW) {wz : gW} {r : Int32} (hf : f_X_exactly N a0 a1 w = some (r, wz)) : Met l y_X_exactly (Cond.code y_X_exactly b_X_exactly 3 (some .int) :: lw_good) ({ frames := 7, cells := 0, slots := 0, locals := 188 } : Room) (gPre D cA oc B [.ref (B + a0), .int a1] w) (gQi D cA B r wz) 0 0 (gA B) := by
  refine Met.ofW (cc := b_X_exactly) (maxL := 3) (ret := (some .int)) (by decide +kernel) rfl ?_
  intro p e s m args below meth c s₁ Bd hml hv
  obtain ⟨hargs, C, hR⟩ := gC.enter (l := l) rfl Bd hml hv
  subst hargs
  have hl := lv_entry ([.ref (B + a0), .int a1]) (n := 3) (Nat.le_of_ble_eq_true rfl)
  rw [lg_entry_eq]
  generalize (lg_sl ([.ref (B + a0), .int a1]) ++ List.replicate (3 - (lg_sl ([.ref (B + a0), .int a1])).length) Slot.unset).toArray = ls at hl ⊢
  have hl : lv_has ls 3 [(0, .ref (B + a0)), (1, .int a1)] := hl
  exact c_X_exactly_b0 C a0 a1 w (lv_sub hl [0, 1] rfl) hf hR va_S.rf
theorem d_X_price_0 : decode b_X_price 0 = .ok (.iload_n 1, 1) := by decide +kernel
theorem d_X_price_1 : decode b_X_price 1 = .ok (.iconst (-1), 1) := by decide +kernel
theorem d_X_price_2 : decode b_X_price 2 = .ok (.if_icmp .ne 13, 3) := by decide +kernel
theorem d_X_price_5 : decode b_X_price 5 = .ok (.aload_n 0, 1) := by decide +kernel
theorem d_X_price_6 : decode b_X_price 6 = .ok (.getfield 23, 3) := by decide +kernel
theorem d_X_price_9 : decode b_X_price 9 = .ok (.iconst 0, 1) := by decide +kernel
theorem d_X_price_10 : decode b_X_price 10 = .ok (.putfield 182, 3) := by decide +kernel
theorem d_X_price_13 : decode b_X_price 13 = .ok (.iconst 0, 1) := by decide +kernel
theorem d_X_price_14 : decode b_X_price 14 = .ok (.ireturn, 1) := by decide +kernel
theorem d_X_price_15 : decode b_X_price 15 = .ok (.iload_n 1, 1) := by decide +kernel
theorem d_X_price_16 : decode b_X_price 16 = .ok (.invokestatic 146, 3) := by decide +kernel
theorem d_X_price_19 : decode b_X_price 19 = .ok (.ifCond .ne 6, 3) := by decide +kernel
theorem d_X_price_22 : decode b_X_price 22 = .ok (.bipush (-2), 2) := by decide +kernel
theorem d_X_price_24 : decode b_X_price 24 = .ok (.ireturn, 1) := by decide +kernel
theorem d_X_price_25 : decode b_X_price 25 = .ok (.aload_n 0, 1) := by decide +kernel
theorem d_X_price_26 : decode b_X_price 26 = .ok (.getfield 23, 3) := by decide +kernel
theorem d_X_price_29 : decode b_X_price 29 = .ok (.getfield 182, 3) := by decide +kernel
theorem d_X_price_32 : decode b_X_price 32 = .ok (.iconst 4, 1) := by decide +kernel
theorem d_X_price_33 : decode b_X_price 33 = .ok (.if_icmp .lt 6, 3) := by decide +kernel
theorem d_X_price_36 : decode b_X_price 36 = .ok (.bipush (-4), 2) := by decide +kernel
theorem d_X_price_38 : decode b_X_price 38 = .ok (.ireturn, 1) := by decide +kernel
theorem d_X_price_39 : decode b_X_price 39 = .ok (.aload_n 0, 1) := by decide +kernel
theorem d_X_price_40 : decode b_X_price 40 = .ok (.getfield 23, 3) := by decide +kernel
theorem d_X_price_43 : decode b_X_price 43 = .ok (.getfield 185, 3) := by decide +kernel
theorem d_X_price_46 : decode b_X_price 46 = .ok (.aload_n 0, 1) := by decide +kernel
theorem d_X_price_47 : decode b_X_price 47 = .ok (.getfield 23, 3) := by decide +kernel
theorem d_X_price_50 : decode b_X_price 50 = .ok (.getfield 182, 3) := by decide +kernel
theorem d_X_price_53 : decode b_X_price 53 = .ok (.iload_n 1, 1) := by decide +kernel
theorem d_X_price_54 : decode b_X_price 54 = .ok (.iastore, 1) := by decide +kernel
theorem d_X_price_55 : decode b_X_price 55 = .ok (.aload_n 0, 1) := by decide +kernel
theorem d_X_price_56 : decode b_X_price 56 = .ok (.getfield 23, 3) := by decide +kernel
theorem d_X_price_59 : decode b_X_price 59 = .ok (.dup, 1) := by decide +kernel
theorem d_X_price_60 : decode b_X_price 60 = .ok (.getfield 182, 3) := by decide +kernel
theorem d_X_price_63 : decode b_X_price 63 = .ok (.iconst 1, 1) := by decide +kernel
theorem d_X_price_64 : decode b_X_price 64 = .ok (.iadd, 1) := by decide +kernel
theorem d_X_price_65 : decode b_X_price 65 = .ok (.putfield 182, 3) := by decide +kernel
theorem d_X_price_68 : decode b_X_price 68 = .ok (.aload_n 0, 1) := by decide +kernel
theorem d_X_price_69 : decode b_X_price 69 = .ok (.getfield 23, 3) := by decide +kernel
theorem d_X_price_72 : decode b_X_price 72 = .ok (.getfield 182, 3) := by decide +kernel
theorem d_X_price_75 : decode b_X_price 75 = .ok (.ireturn, 1) := by decide +kernel
set_option maxRecDepth 20000 in
theorem c_X_price_b0 {r : Int32} {wz : gW} (C : gC p s m args meth c "RidCoppers" b_X_price 2 (some .int) D cA oc B) (a0 : Nat) (a1 : Int32) (w : gW) {ls : Array Slot} {H : Heap} {locs : List Loc} (hl : lv_has ls 2 [(0, .ref (B + a0)), (1, .int a1)]) (hf : f_X_price_b0 N a0 a1 w = some (r, wz)) (hR : gRep D cA B w H) (hS : va_S (gA B) s.heap H locs) : W p l e ({ frames := 2, cells := 0, slots := 0, locals := 60 } : Room) s m args below meth c H locs 0 0 (MQ below (gQi D cA B r wz) args s 0 0 (gA B)) (F0 m 0 ls []) := by
  obtain ⟨hx, hb, hml, hown, hts, hr, hlocks, hK, hBs⟩ := id C
  unfold f_X_price_b0 at hf
  refine lv_iload_n hx hb d_X_price_0 rfl (lv_at hl 1 rfl) ?_
  refine lv_iconst (v := (-1)) hx hb d_X_price_1 (by decide) ?_
  refine lv_icmp_ne (tgt := 15) hx hb d_X_price_2 (by decide) (fun hc => ?_) (fun hc => ?_)
  · have hf := cd_f hc hf
    refine lv_iload_n hx hb d_X_price_15 rfl (lv_at hl 1 rfl) ?_
    have ⟨x1, w2, h3, hf⟩ := kl_e hf
    refine g_ki0 (g_rS (As := [.int a1]) (rest := []) hx hb hml hown hts hK hR hS (c_X_isPrice l D cA oc B N a1 w h3) I_X_isPrice m_615 rfl rfl (Nat.le_of_ble_eq_true rfl) hl.1 ⟨Nat.le_of_ble_eq_true rfl, Nat.le_of_ble_eq_true rfl⟩ ⟨Nat.le_of_ble_eq_true rfl, Nat.le_of_ble_eq_true rfl⟩ d_X_price_16) hS (fun H locs hR hS => ?_)
    refine lv_if_ne (tgt := 25) hx hb d_X_price_19 (by decide) (fun hc => ?_) (fun hc => ?_)
    · have hf := cd_f hc hf
      refine lv_aload_n hx hb d_X_price_25 rfl (lv_at hl 0 rfl) ?_
      have ⟨h4, hf⟩ := gd_e hf
      have ⟨x5, h6, hf⟩ := rr_e hf
      refine g_getR hx hb hts hown hK hR fl_X_23 (fun _ => rfl) h4 h6 d_X_price_26 ?_
      have ⟨h7, hf⟩ := gd_e hf
      refine g_getI hx hb hts hown hK hR fl_X_182 (fun _ => rfl) h7 d_X_price_29 ?_
      refine g_nI hf (fun x8 hf => ?_)
      refine lv_iconst (v := 4) hx hb d_X_price_32 (by decide) ?_
      refine lv_icmp_lt (tgt := 39) hx hb d_X_price_33 (by decide) (fun hc => ?_) (fun hc => ?_)
      · have hf := cd_t hc hf
        refine lv_aload_n hx hb d_X_price_39 rfl (lv_at hl 0 rfl) ?_
        refine g_getR hx hb hts hown hK hR fl_X_23 (fun _ => rfl) h4 h6 d_X_price_40 ?_
        have ⟨x9, h10, hf⟩ := rr_e hf
        refine g_getR hx hb hts hown hK hR fl_X_185 (fun _ => rfl) h7 h10 d_X_price_43 ?_
        refine lv_aload_n hx hb d_X_price_46 rfl (lv_at hl 0 rfl) ?_
        refine g_getR hx hb hts hown hK hR fl_X_23 (fun _ => rfl) h4 h6 d_X_price_47 ?_
        refine g_getI hx hb hts hown hK hR fl_X_182 (fun _ => rfl) h7 d_X_price_50 ?_
        refine g_nI hf (fun x11 hf => ?_)
        refine lv_iload_n hx hb d_X_price_53 rfl (lv_at hl 1 rfl) ?_
        have ⟨h12, hf⟩ := gd_e hf
        have ⟨h13, hf⟩ := gd_e hf
        refine g_iast hx hb hK hR hS h12 h13 d_X_price_54 (fun H locs hR hS => ?_)
        refine g_nW hf hR (fun w14 hf hR => ?_)
        refine lv_aload_n hx hb d_X_price_55 rfl (lv_at hl 0 rfl) ?_
        have ⟨h15, hf⟩ := gd_e hf
        have ⟨x16, h17, hf⟩ := rr_e hf
        refine g_getR hx hb hts hown hK hR fl_X_23 (fun _ => rfl) h15 h17 d_X_price_56 ?_
        refine lv_dup hx hb d_X_price_59 rfl ?_
        have ⟨h18, hf⟩ := gd_e hf
        refine g_getI hx hb hts hown hK hR fl_X_182 (fun _ => rfl) h18 d_X_price_60 ?_
        refine g_nI hf (fun x19 hf => ?_)
        refine lv_iconst (v := 1) hx hb d_X_price_63 (by decide) ?_
        refine lv_iadd hx hb d_X_price_64 ?_
        refine g_nI hf (fun x20 hf => ?_)
        refine g_putI hx hb hts hown hK hR hS pf_X_182 (fun _ => rfl) rfl rfl h18 d_X_price_65 (fun H locs hR hS => ?_)
        refine g_nW hf hR (fun w21 hf hR => ?_)
        refine lv_aload_n hx hb d_X_price_68 rfl (lv_at hl 0 rfl) ?_
        have ⟨h22, hf⟩ := gd_e hf
        have ⟨x23, h24, hf⟩ := rr_e hf
        refine g_getR hx hb hts hown hK hR fl_X_23 (fun _ => rfl) h22 h24 d_X_price_69 ?_
        have ⟨h25, hf⟩ := gd_e hf
        refine g_getI hx hb hts hown hK hR fl_X_182 (fun _ => rfl) h25 d_X_price_72 ?_
        refine g_nI hf (fun x26 hf => ?_)
        exact g_iret hx hb hr hlocks hR hS hf rfl d_X_price_75
      have hf := cd_f hc hf
      refine lv_bipush (v := (-4)) hx hb d_X_price_36 (by decide) ?_
      exact g_iret hx hb hr hlocks hR hS hf rfl d_X_price_38
    have hf := cd_t hc hf
    refine lv_bipush (v := (-2)) hx hb d_X_price_22 (by decide) ?_
    exact g_iret hx hb hr hlocks hR hS hf rfl d_X_price_24
  have hf := cd_t hc hf
  refine lv_aload_n hx hb d_X_price_5 rfl (lv_at hl 0 rfl) ?_
  have ⟨h27, hf⟩ := gd_e hf
  have ⟨x28, h29, hf⟩ := rr_e hf
  refine g_getR hx hb hts hown hK hR fl_X_23 (fun _ => rfl) h27 h29 d_X_price_6 ?_
  refine lv_iconst (v := 0) hx hb d_X_price_9 (by decide) ?_
  have ⟨h30, hf⟩ := gd_e hf
  refine g_putI hx hb hts hown hK hR hS pf_X_182 (fun _ => rfl) rfl rfl h30 d_X_price_10 (fun H locs hR hS => ?_)
  refine g_nW hf hR (fun w31 hf hR => ?_)
  refine lv_iconst (v := 0) hx hb d_X_price_13 (by decide) ?_
  exact g_iret hx hb hr hlocks hR hS hf rfl d_X_price_14
theorem c_X_price (l : Launch) (D : va_G) (cA : Nat → ClassId) (oc : gO) (B N : Nat) (a0 : Nat) (a1 : Int32) (w : gW) {wz : gW} {r : Int32} (hf : f_X_price N a0 a1 w = some (r, wz)) : Met l y_X_price (Cond.code y_X_price b_X_price 2 (some .int) :: lw_good) ({ frames := 2, cells := 0, slots := 0, locals := 60 } : Room) (gPre D cA oc B [.ref (B + a0), .int a1] w) (gQi D cA B r wz) 0 0 (gA B) := by
  refine Met.ofW (cc := b_X_price) (maxL := 2) (ret := (some .int)) (by decide +kernel) rfl ?_
  intro p e s m args below meth c s₁ Bd hml hv
  obtain ⟨hargs, C, hR⟩ := gC.enter (l := l) rfl Bd hml hv
  subst hargs
  have hl := lv_entry ([.ref (B + a0), .int a1]) (n := 2) (Nat.le_of_ble_eq_true rfl)
  rw [lg_entry_eq]
  generalize (lg_sl ([.ref (B + a0), .int a1]) ++ List.replicate (2 - (lg_sl ([.ref (B + a0), .int a1])).length) Slot.unset).toArray = ls at hl ⊢
  have hl : lv_has ls 2 [(0, .ref (B + a0)), (1, .int a1)] := hl
  exact c_X_price_b0 C a0 a1 w (lv_sub hl [0, 1] rfl) hf hR va_S.rf
theorem d_X_payRowOnTrial_0 : decode b_X_payRowOnTrial 0 = .ok (.aload_n 0, 1) := by decide +kernel
theorem d_X_payRowOnTrial_1 : decode b_X_payRowOnTrial 1 = .ok (.getfield 30, 3) := by decide +kernel
theorem d_X_payRowOnTrial_4 : decode b_X_payRowOnTrial 4 = .ok (.aload_n 0, 1) := by decide +kernel
theorem d_X_payRowOnTrial_5 : decode b_X_payRowOnTrial 5 = .ok (.getfield 23, 3) := by decide +kernel
theorem d_X_payRowOnTrial_8 : decode b_X_payRowOnTrial 8 = .ok (.invokevirtual 201, 3) := by decide +kernel
theorem d_X_payRowOnTrial_11 : decode b_X_payRowOnTrial 11 = .ok (.iconst 0, 1) := by decide +kernel
theorem d_X_payRowOnTrial_12 : decode b_X_payRowOnTrial 12 = .ok (.istore_n 2, 1) := by decide +kernel
theorem d_X_payRowOnTrial_13 : decode b_X_payRowOnTrial 13 = .ok (.iconst 0, 1) := by decide +kernel
theorem d_X_payRowOnTrial_14 : decode b_X_payRowOnTrial 14 = .ok (.istore_n 3, 1) := by decide +kernel
theorem d_X_payRowOnTrial_15 : decode b_X_payRowOnTrial 15 = .ok (.iload_n 3, 1) := by decide +kernel
theorem d_X_payRowOnTrial_16 : decode b_X_payRowOnTrial 16 = .ok (.aload_n 0, 1) := by decide +kernel
theorem d_X_payRowOnTrial_17 : decode b_X_payRowOnTrial 17 = .ok (.getfield 30, 3) := by decide +kernel
theorem d_X_payRowOnTrial_20 : decode b_X_payRowOnTrial 20 = .ok (.getfield 182, 3) := by decide +kernel
theorem d_X_payRowOnTrial_23 : decode b_X_payRowOnTrial 23 = .ok (.if_icmp .ge 43, 3) := by decide +kernel
theorem d_X_payRowOnTrial_26 : decode b_X_payRowOnTrial 26 = .ok (.aload_n 0, 1) := by decide +kernel
theorem d_X_payRowOnTrial_27 : decode b_X_payRowOnTrial 27 = .ok (.getfield 40, 3) := by decide +kernel
theorem d_X_payRowOnTrial_30 : decode b_X_payRowOnTrial 30 = .ok (.aload_n 0, 1) := by decide +kernel
theorem d_X_payRowOnTrial_31 : decode b_X_payRowOnTrial 31 = .ok (.getfield 30, 3) := by decide +kernel
theorem d_X_payRowOnTrial_34 : decode b_X_payRowOnTrial 34 = .ok (.aload_n 1, 1) := by decide +kernel
theorem d_X_payRowOnTrial_35 : decode b_X_payRowOnTrial 35 = .ok (.aload_n 0, 1) := by decide +kernel
theorem d_X_payRowOnTrial_36 : decode b_X_payRowOnTrial 36 = .ok (.getfield 30, 3) := by decide +kernel
theorem d_X_payRowOnTrial_39 : decode b_X_payRowOnTrial 39 = .ok (.getfield 185, 3) := by decide +kernel
theorem d_X_payRowOnTrial_42 : decode b_X_payRowOnTrial 42 = .ok (.iload_n 3, 1) := by decide +kernel
theorem d_X_payRowOnTrial_43 : decode b_X_payRowOnTrial 43 = .ok (.iaload, 1) := by decide +kernel
theorem d_X_payRowOnTrial_44 : decode b_X_payRowOnTrial 44 = .ok (.invokevirtual 149, 3) := by decide +kernel
theorem d_X_payRowOnTrial_47 : decode b_X_payRowOnTrial 47 = .ok (.ifCond .eq 13, 3) := by decide +kernel
theorem d_X_payRowOnTrial_50 : decode b_X_payRowOnTrial 50 = .ok (.aload_n 0, 1) := by decide +kernel
theorem d_X_payRowOnTrial_51 : decode b_X_payRowOnTrial 51 = .ok (.getfield 40, 3) := by decide +kernel
theorem d_X_payRowOnTrial_54 : decode b_X_payRowOnTrial 54 = .ok (.invokevirtual 153, 3) := by decide +kernel
theorem d_X_payRowOnTrial_57 : decode b_X_payRowOnTrial 57 = .ok (.iinc 2 1, 3) := by decide +kernel
theorem d_X_payRowOnTrial_60 : decode b_X_payRowOnTrial 60 = .ok (.iinc 3 1, 3) := by decide +kernel
theorem d_X_payRowOnTrial_63 : decode b_X_payRowOnTrial 63 = .ok (.goto (-48), 3) := by decide +kernel
theorem d_X_payRowOnTrial_66 : decode b_X_payRowOnTrial 66 = .ok (.iload_n 2, 1) := by decide +kernel
theorem d_X_payRowOnTrial_67 : decode b_X_payRowOnTrial 67 = .ok (.ireturn, 1) := by decide +kernel
set_option maxRecDepth 20000 in
theorem c_X_payRowOnTrial_b15 {r : Int32} {wz : gW} {rec15 : Nat × Nat × Int32 × Int32 × gW → Option (Int32 × gW)} (ih15 : ∀ (a0 : Nat) (a1 : Nat) (a2 : Int32) (a3 : Int32) (w : gW) (ls : Array Slot) (H : Heap) (locs : List Loc), rec15 (a0, a1, a2, a3, w) = some (r, wz) → lv_has ls 4 [(0, .ref (B + a0)), (1, .ref (B + a1)), (2, .int a2), (3, .int a3)] → gRep D cA B w H → va_S (gA B) s.heap H locs → W p l e ({ frames := 7, cells := 0, slots := 0, locals := 193 } : Room) s m args below meth c H locs 0 0 (MQ below (gQi D cA B r wz) args s 0 0 (gA B)) (F0 m 15 ls [])) (C : gC p s m args meth c "RidCoppers" b_X_payRowOnTrial 4 (some .int) D cA oc B) (a0 : Nat) (a1 : Nat) (a2 : Int32) (a3 : Int32) (w : gW) {ls : Array Slot} {H : Heap} {locs : List Loc} (hl : lv_has ls 4 [(0, .ref (B + a0)), (1, .ref (B + a1)), (2, .int a2), (3, .int a3)]) (hf : f_X_payRowOnTrial_b15 N rec15 a0 a1 a2 a3 w = some (r, wz)) (hR : gRep D cA B w H) (hS : va_S (gA B) s.heap H locs) : W p l e ({ frames := 7, cells := 0, slots := 0, locals := 193 } : Room) s m args below meth c H locs 0 0 (MQ below (gQi D cA B r wz) args s 0 0 (gA B)) (F0 m 15 ls []) := by
  obtain ⟨hx, hb, hml, hown, hts, hr, hlocks, hK, hBs⟩ := id C
  unfold f_X_payRowOnTrial_b15 at hf
  refine lv_iload_n hx hb d_X_payRowOnTrial_15 rfl (lv_at hl 3 rfl) ?_
  refine lv_aload_n hx hb d_X_payRowOnTrial_16 rfl (lv_at hl 0 rfl) ?_
  have ⟨h10, hf⟩ := gd_e hf
  have ⟨x11, h12, hf⟩ := rr_e hf
  refine g_getR hx hb hts hown hK hR fl_X_30 (fun _ => rfl) h10 h12 d_X_payRowOnTrial_17 ?_
  have ⟨h13, hf⟩ := gd_e hf
  refine g_getI hx hb hts hown hK hR fl_X_182 (fun _ => rfl) h13 d_X_payRowOnTrial_20 ?_
  refine g_nI hf (fun x14 hf => ?_)
  refine lv_icmp_ge (tgt := 66) hx hb d_X_payRowOnTrial_23 (by decide) (fun hc => ?_) (fun hc => ?_)
  · have hf := cd_t hc hf
    refine lv_iload_n hx hb d_X_payRowOnTrial_66 rfl (lv_at hl 2 rfl) ?_
    exact g_iret hx hb hr hlocks hR hS hf rfl d_X_payRowOnTrial_67
  have hf := cd_f hc hf
  refine lv_aload_n hx hb d_X_payRowOnTrial_26 rfl (lv_at hl 0 rfl) ?_
  have ⟨x15, h16, hf⟩ := rr_e hf
  refine g_getR hx hb hts hown hK hR fl_X_40 (fun _ => rfl) h10 h16 d_X_payRowOnTrial_27 ?_
  refine lv_aload_n hx hb d_X_payRowOnTrial_30 rfl (lv_at hl 0 rfl) ?_
  refine g_getR hx hb hts hown hK hR fl_X_30 (fun _ => rfl) h10 h12 d_X_payRowOnTrial_31 ?_
  refine lv_aload_n hx hb d_X_payRowOnTrial_34 rfl (lv_at hl 1 rfl) ?_
  refine lv_aload_n hx hb d_X_payRowOnTrial_35 rfl (lv_at hl 0 rfl) ?_
  refine g_getR hx hb hts hown hK hR fl_X_30 (fun _ => rfl) h10 h12 d_X_payRowOnTrial_36 ?_
  have ⟨x17, h18, hf⟩ := rr_e hf
  refine g_getR hx hb hts hown hK hR fl_X_185 (fun _ => rfl) h13 h18 d_X_payRowOnTrial_39 ?_
  refine lv_iload_n hx hb d_X_payRowOnTrial_42 rfl (lv_at hl 3 rfl) ?_
  have ⟨h19, hf⟩ := gd_e hf
  have ⟨h20, hf⟩ := gd_e hf
  refine g_iald hx hb hK hR h19 h20 d_X_payRowOnTrial_43 ?_
  refine g_nI hf (fun x21 hf => ?_)
  have ⟨h25, hf⟩ := gd_e hf
  have ⟨x22, w23, h24, hf⟩ := kl_e hf
  refine g_ki0 (g_rV (As := [.ref (B + x11), .ref (B + a1), .int x21]) (rest := []) hx hb hml hown hts hK hR hS (c_Pm_choose l D cA oc B N x15 x11 a1 x21 w h24) I_Pm_choose m_618 m_620 (gRecv hK hR (ci := 10) rfl h25) rfl rfl (Nat.le_of_ble_eq_true rfl) hl.1 ⟨Nat.le_of_ble_eq_true rfl, Nat.le_of_ble_eq_true rfl⟩ ⟨Nat.le_of_ble_eq_true rfl, Nat.le_of_ble_eq_true rfl⟩ d_X_payRowOnTrial_44) hS (fun H locs hR hS => ?_)
  refine lv_if_eq (tgt := 60) hx hb d_X_payRowOnTrial_47 (by decide) (fun hc => ?_) (fun hc => ?_)
  · have hf := cd_t hc hf
    refine g_iinc (lv' := fun x26 => [(3, .int x26), (0, .ref (B + a0)), (1, .ref (B + a1)), (2, .int a2)]) hf hx hb d_X_payRowOnTrial_60 hl (k := 3) rfl (by decide) (by decide) (fun _ => rfl) (fun x26 ls hf hl => ?_)
    refine lv_goto (tgt := 15) hx hb d_X_payRowOnTrial_63 (by decide) ?_
    exact ih15 a0 a1 a2 x26 w23 _ _ _ hf (lv_sub hl [1, 2, 3, 0] rfl) hR hS
  have hf := cd_f hc hf
  refine lv_aload_n hx hb d_X_payRowOnTrial_50 rfl (lv_at hl 0 rfl) ?_
  have ⟨h27, hf⟩ := gd_e hf
  have ⟨x28, h29, hf⟩ := rr_e hf
  refine g_getR hx hb hts hown hK hR fl_X_40 (fun _ => rfl) h27 h29 d_X_payRowOnTrial_51 ?_
  have ⟨h33, hf⟩ := gd_e hf
  have ⟨x30, w31, h32, hf⟩ := kl_e hf
  refine g_kv0 (g_rV (As := []) (rest := []) hx hb hml hown hts hK hR hS (c_Pm_settle l D cA oc B N x28 w23 h32) I_Pm_settle m_715 m_717 (gRecv hK hR (ci := 10) rfl h33) rfl rfl (Nat.le_of_ble_eq_true rfl) hl.1 ⟨Nat.le_of_ble_eq_true rfl, Nat.le_of_ble_eq_true rfl⟩ ⟨Nat.le_of_ble_eq_true rfl, Nat.le_of_ble_eq_true rfl⟩ d_X_payRowOnTrial_54) hS (fun H locs hR hS => ?_)
  refine g_iinc (lv' := fun x34 => [(2, .int x34), (0, .ref (B + a0)), (1, .ref (B + a1)), (3, .int a3)]) hf hx hb d_X_payRowOnTrial_57 hl (k := 2) rfl (by decide) (by decide) (fun _ => rfl) (fun x34 ls hf hl => ?_)
  refine g_iinc (lv' := fun x35 => [(3, .int x35), (2, .int x34), (0, .ref (B + a0)), (1, .ref (B + a1))]) hf hx hb d_X_payRowOnTrial_60 hl (k := 3) rfl (by decide) (by decide) (fun _ => rfl) (fun x35 ls hf hl => ?_)
  refine lv_goto (tgt := 15) hx hb d_X_payRowOnTrial_63 (by decide) ?_
  exact ih15 a0 a1 x34 x35 w31 _ _ _ hf (lv_sub hl [2, 3, 1, 0] rfl) hR hS
theorem c_X_payRowOnTrial_l15 {r : Int32} {wz : gW} (C : gC p s m args meth c "RidCoppers" b_X_payRowOnTrial 4 (some .int) D cA oc B) (a0 : Nat) (a1 : Nat) (a2 : Int32) (a3 : Int32) (w : gW) {ls : Array Slot} {H : Heap} {locs : List Loc} (hl : lv_has ls 4 [(0, .ref (B + a0)), (1, .ref (B + a1)), (2, .int a2), (3, .int a3)]) (hf : f_X_payRowOnTrial_l15 N a0 a1 a2 a3 w = some (r, wz)) (hR : gRep D cA B w H) (hS : va_S (gA B) s.heap H locs) : W p l e ({ frames := 7, cells := 0, slots := 0, locals := 193 } : Room) s m args below meth c H locs 0 0 (MQ below (gQi D cA B r wz) args s 0 0 (gA B)) (F0 m 15 ls []) := by
  unfold f_X_payRowOnTrial_l15 at hf
  suffices hh : ∀ n : Nat, ∀ (a0 : Nat) (a1 : Nat) (a2 : Int32) (a3 : Int32) (w : gW) (ls : Array Slot) (H : Heap) (locs : List Loc), itr (fun rec (q : Nat × Nat × Int32 × Int32 × gW) => f_X_payRowOnTrial_b15 N rec q.1 q.2.1 q.2.2.1 q.2.2.2.1 q.2.2.2.2) n (a0, a1, a2, a3, w) = some (r, wz) → lv_has ls 4 [(0, .ref (B + a0)), (1, .ref (B + a1)), (2, .int a2), (3, .int a3)] → gRep D cA B w H → va_S (gA B) s.heap H locs → W p l e ({ frames := 7, cells := 0, slots := 0, locals := 193 } : Room) s m args below meth c H locs 0 0 (MQ below (gQi D cA B r wz) args s 0 0 (gA B)) (F0 m 15 ls []) from hh N a0 a1 a2 a3 w ls H locs hf hl hR hS
  intro n
  induction n with
  | zero => intro a0 a1 a2 a3 w ls H locs hf; cases hf
  | succ n ihn =>
    intro a0 a1 a2 a3 w ls H locs hf hl hR hS
    exact c_X_payRowOnTrial_b15 (N := N) ihn C a0 a1 a2 a3 w hl ((itr_s _ _ _).symm.trans hf) hR hS
set_option maxRecDepth 20000 in
theorem c_X_payRowOnTrial_b0 {r : Int32} {wz : gW} (C : gC p s m args meth c "RidCoppers" b_X_payRowOnTrial 4 (some .int) D cA oc B) (a0 : Nat) (a1 : Nat) (w : gW) {ls : Array Slot} {H : Heap} {locs : List Loc} (hl : lv_has ls 4 [(0, .ref (B + a0)), (1, .ref (B + a1))]) (hf : f_X_payRowOnTrial_b0 N a0 a1 w = some (r, wz)) (hR : gRep D cA B w H) (hS : va_S (gA B) s.heap H locs) : W p l e ({ frames := 7, cells := 0, slots := 0, locals := 193 } : Room) s m args below meth c H locs 0 0 (MQ below (gQi D cA B r wz) args s 0 0 (gA B)) (F0 m 0 ls []) := by
  obtain ⟨hx, hb, hml, hown, hts, hr, hlocks, hK, hBs⟩ := id C
  unfold f_X_payRowOnTrial_b0 at hf
  refine lv_aload_n hx hb d_X_payRowOnTrial_0 rfl (lv_at hl 0 rfl) ?_
  have ⟨h1, hf⟩ := gd_e hf
  have ⟨x2, h3, hf⟩ := rr_e hf
  refine g_getR hx hb hts hown hK hR fl_X_30 (fun _ => rfl) h1 h3 d_X_payRowOnTrial_1 ?_
  refine lv_aload_n hx hb d_X_payRowOnTrial_4 rfl (lv_at hl 0 rfl) ?_
  have ⟨x4, h5, hf⟩ := rr_e hf
  refine g_getR hx hb hts hown hK hR fl_X_23 (fun _ => rfl) h1 h5 d_X_payRowOnTrial_5 ?_
  have ⟨h9, hf⟩ := gd_e hf
  have ⟨x6, w7, h8, hf⟩ := kl_e hf
  refine g_kv0 (g_rV (As := [.ref (B + x4)]) (rest := []) hx hb hml hown hts hK hR hS (c_Wo_become l D cA oc B N x2 x4 w h8) I_Wo_become m_766 m_768 (gRecv hK hR (ci := 9) rfl h9) rfl rfl (Nat.le_of_ble_eq_true rfl) hl.1 ⟨Nat.le_of_ble_eq_true rfl, Nat.le_of_ble_eq_true rfl⟩ ⟨Nat.le_of_ble_eq_true rfl, Nat.le_of_ble_eq_true rfl⟩ d_X_payRowOnTrial_8) hS (fun H locs hR hS => ?_)
  refine lv_iconst (v := 0) hx hb d_X_payRowOnTrial_11 (by decide) ?_
  refine lv_istore_n (lv' := [(2, .int 0), (0, .ref (B + a0)), (1, .ref (B + a1))]) hx hb d_X_payRowOnTrial_12 rfl hl (by decide) rfl (fun ls hl => ?_)
  refine lv_iconst (v := 0) hx hb d_X_payRowOnTrial_13 (by decide) ?_
  refine lv_istore_n (lv' := [(3, .int 0), (2, .int 0), (0, .ref (B + a0)), (1, .ref (B + a1))]) hx hb d_X_payRowOnTrial_14 rfl hl (by decide) rfl (fun ls hl => ?_)
  exact c_X_payRowOnTrial_l15 C a0 a1 0 0 w7 (lv_sub hl [2, 3, 1, 0] rfl) hf hR hS
theorem c_X_payRowOnTrial (l : Launch) (D : va_G) (cA : Nat → ClassId) (oc : gO) (B N : Nat) (a0 : Nat) (a1 : Nat) (w : gW) {wz : gW} {r : Int32} (hf : f_X_payRowOnTrial N a0 a1 w = some (r, wz)) : Met l y_X_payRowOnTrial (Cond.code y_X_payRowOnTrial b_X_payRowOnTrial 4 (some .int) :: lw_good) ({ frames := 7, cells := 0, slots := 0, locals := 193 } : Room) (gPre D cA oc B [.ref (B + a0), .ref (B + a1)] w) (gQi D cA B r wz) 0 0 (gA B) := by
  refine Met.ofW (cc := b_X_payRowOnTrial) (maxL := 4) (ret := (some .int)) (by decide +kernel) rfl ?_
  intro p e s m args below meth c s₁ Bd hml hv
  obtain ⟨hargs, C, hR⟩ := gC.enter (l := l) rfl Bd hml hv
  subst hargs
  have hl := lv_entry ([.ref (B + a0), .ref (B + a1)]) (n := 4) (Nat.le_of_ble_eq_true rfl)
  rw [lg_entry_eq]
  generalize (lg_sl ([.ref (B + a0), .ref (B + a1)]) ++ List.replicate (4 - (lg_sl ([.ref (B + a0), .ref (B + a1)])).length) Slot.unset).toArray = ls at hl ⊢
  have hl : lv_has ls 4 [(0, .ref (B + a0)), (1, .ref (B + a1))] := hl
  exact c_X_payRowOnTrial_b0 C a0 a1 w (lv_sub hl [0, 1] rfl) hf hR va_S.rf
theorem d_X_behind_0 : decode b_X_behind 0 = .ok (.aload_n 0, 1) := by decide +kernel
theorem d_X_behind_1 : decode b_X_behind 1 = .ok (.iload_n 1, 1) := by decide +kernel
theorem d_X_behind_2 : decode b_X_behind 2 = .ok (.invokevirtual 92, 3) := by decide +kernel
theorem d_X_behind_5 : decode b_X_behind 5 = .ok (.astore_n 3, 1) := by decide +kernel
theorem d_X_behind_6 : decode b_X_behind 6 = .ok (.aload_n 3, 1) := by decide +kernel
theorem d_X_behind_7 : decode b_X_behind 7 = .ok (.ifnull 12, 3) := by decide +kernel
theorem d_X_behind_10 : decode b_X_behind 10 = .ok (.iload_n 2, 1) := by decide +kernel
theorem d_X_behind_11 : decode b_X_behind 11 = .ok (.ifCond .lt 8, 3) := by decide +kernel
theorem d_X_behind_14 : decode b_X_behind 14 = .ok (.iload_n 2, 1) := by decide +kernel
theorem d_X_behind_15 : decode b_X_behind 15 = .ok (.iconst 2, 1) := by decide +kernel
theorem d_X_behind_16 : decode b_X_behind 16 = .ok (.if_icmp .le 5, 3) := by decide +kernel
theorem d_X_behind_19 : decode b_X_behind 19 = .ok (.iconst (-1), 1) := by decide +kernel
theorem d_X_behind_20 : decode b_X_behind 20 = .ok (.ireturn, 1) := by decide +kernel
theorem d_X_behind_21 : decode b_X_behind 21 = .ok (.aload_n 0, 1) := by decide +kernel
theorem d_X_behind_22 : decode b_X_behind 22 = .ok (.aload_n 3, 1) := by decide +kernel
theorem d_X_behind_23 : decode b_X_behind 23 = .ok (.invokevirtual 188, 3) := by decide +kernel
theorem d_X_behind_26 : decode b_X_behind 26 = .ok (.istore 4, 2) := by decide +kernel
theorem d_X_behind_28 : decode b_X_behind 28 = .ok (.iload_n 2, 1) := by decide +kernel
theorem d_X_behind_29 : decode b_X_behind 29 = .ok (.iconst 2, 1) := by decide +kernel
theorem d_X_behind_30 : decode b_X_behind 30 = .ok (.if_icmp .ne 6, 3) := by decide +kernel
theorem d_X_behind_33 : decode b_X_behind 33 = .ok (.iload 4, 2) := by decide +kernel
theorem d_X_behind_35 : decode b_X_behind 35 = .ok (.ireturn, 1) := by decide +kernel
theorem d_X_behind_36 : decode b_X_behind 36 = .ok (.iload_n 2, 1) := by decide +kernel
theorem d_X_behind_37 : decode b_X_behind 37 = .ok (.ifCond .ne 14, 3) := by decide +kernel
theorem d_X_behind_40 : decode b_X_behind 40 = .ok (.aload_n 0, 1) := by decide +kernel
theorem d_X_behind_41 : decode b_X_behind 41 = .ok (.getfield 30, 3) := by decide +kernel
theorem d_X_behind_44 : decode b_X_behind 44 = .ok (.iload_n 1, 1) := by decide +kernel
theorem d_X_behind_45 : decode b_X_behind 45 = .ok (.invokevirtual 122, 3) := by decide +kernel
theorem d_X_behind_48 : decode b_X_behind 48 = .ok (.goto 11, 3) := by decide +kernel
theorem d_X_behind_51 : decode b_X_behind 51 = .ok (.aload_n 0, 1) := by decide +kernel
theorem d_X_behind_52 : decode b_X_behind 52 = .ok (.getfield 30, 3) := by decide +kernel
theorem d_X_behind_55 : decode b_X_behind 55 = .ok (.iload_n 1, 1) := by decide +kernel
theorem d_X_behind_56 : decode b_X_behind 56 = .ok (.invokevirtual 126, 3) := by decide +kernel
theorem d_X_behind_59 : decode b_X_behind 59 = .ok (.ireturn, 1) := by decide +kernel
set_option maxRecDepth 20000 in
theorem c_X_behind_b0 {r : Int32} {wz : gW} (C : gC p s m args meth c "RidCoppers" b_X_behind 5 (some .int) D cA oc B) (a0 : Nat) (a1 : Int32) (a2 : Int32) (w : gW) {ls : Array Slot} {H : Heap} {locs : List Loc} (hl : lv_has ls 5 [(0, .ref (B + a0)), (1, .int a1), (2, .int a2)]) (hf : f_X_behind_b0 N a0 a1 a2 w = some (r, wz)) (hR : gRep D cA B w H) (hS : va_S (gA B) s.heap H locs) : W p l e ({ frames := 8, cells := 0, slots := 0, locals := 216 } : Room) s m args below meth c H locs 0 0 (MQ below (gQi D cA B r wz) args s 0 0 (gA B)) (F0 m 0 ls []) := by
  obtain ⟨hx, hb, hml, hown, hts, hr, hlocks, hK, hBs⟩ := id C
  unfold f_X_behind_b0 at hf
  refine lv_aload_n hx hb d_X_behind_0 rfl (lv_at hl 0 rfl) ?_
  refine lv_iload_n hx hb d_X_behind_1 rfl (lv_at hl 1 rfl) ?_
  have ⟨h4, hf⟩ := gd_e hf
  have ⟨x1, w2, h3, hf⟩ := kl_e hf
  refine g_kr0 (g_rV (As := [.int a1]) (rest := []) hx hb hml hown hts hK hR hS (c_X_payerAt l D cA oc B N a0 a1 w h3) I_X_payerAt m_374 mp_0 (gRecv hK hR (ci := 11) rfl h4) rfl rfl (Nat.le_of_ble_eq_true rfl) hl.1 ⟨Nat.le_of_ble_eq_true rfl, Nat.le_of_ble_eq_true rfl⟩ ⟨Nat.le_of_ble_eq_true rfl, Nat.le_of_ble_eq_true rfl⟩ d_X_behind_2) hS (fun H locs hR hS => ?_)
  rcases x1 with _ | x5
  · have hf := nr_n hf
    refine lv_astore_nN (lv' := [(3, .null), (0, .ref (B + a0)), (1, .int a1), (2, .int a2)]) hx hb d_X_behind_5 rfl hl (by decide) rfl (fun ls hl => ?_)
    refine lv_aload_nN hx hb d_X_behind_6 rfl (lv_at hl 0 rfl) ?_
    refine lv_ifnullN (tgt := 19) hx hb d_X_behind_7 (by decide) ?_
    refine lv_iconst (v := (-1)) hx hb d_X_behind_19 (by decide) ?_
    exact g_iret hx hb hr hlocks hR hS hf rfl d_X_behind_20
  have hf := nr_s hf
  refine lv_astore_n (lv' := [(3, .ref (B + x5)), (0, .ref (B + a0)), (1, .int a1), (2, .int a2)]) hx hb d_X_behind_5 rfl hl (by decide) rfl (fun ls hl => ?_)
  refine lv_aload_n hx hb d_X_behind_6 rfl (lv_at hl 0 rfl) ?_
  refine lv_ifnull hx hb d_X_behind_7 ?_
  refine lv_iload_n hx hb d_X_behind_10 rfl (lv_at hl 3 rfl) ?_
  refine lv_if_lt (tgt := 19) hx hb d_X_behind_11 (by decide) (fun hc => ?_) (fun hc => ?_)
  · have hf := cd_t hc hf
    refine lv_iconst (v := (-1)) hx hb d_X_behind_19 (by decide) ?_
    exact g_iret hx hb hr hlocks hR hS hf rfl d_X_behind_20
  have hf := cd_f hc hf
  refine lv_iload_n hx hb d_X_behind_14 rfl (lv_at hl 3 rfl) ?_
  refine lv_iconst (v := 2) hx hb d_X_behind_15 (by decide) ?_
  refine lv_icmp_le (tgt := 21) hx hb d_X_behind_16 (by decide) (fun hc => ?_) (fun hc => ?_)
  · have hf := cd_t hc hf
    refine lv_aload_n hx hb d_X_behind_21 rfl (lv_at hl 1 rfl) ?_
    refine lv_aload_n hx hb d_X_behind_22 rfl (lv_at hl 0 rfl) ?_
    have ⟨h10, hf⟩ := gd_e hf
    have ⟨x7, w8, h9, hf⟩ := kl_e hf
    refine g_ki0 (g_rV (As := [.ref (B + x5)]) (rest := []) hx hb hml hown hts hK hR hS (c_X_payRowOnTrial l D cA oc B N a0 x5 w2 h9) I_X_payRowOnTrial m_762 mp_25 (gRecv hK hR (ci := 11) rfl h10) rfl rfl (Nat.le_of_ble_eq_true rfl) hl.1 ⟨Nat.le_of_ble_eq_true rfl, Nat.le_of_ble_eq_true rfl⟩ ⟨Nat.le_of_ble_eq_true rfl, Nat.le_of_ble_eq_true rfl⟩ d_X_behind_23) hS (fun H locs hR hS => ?_)
    refine lv_istore (lv' := [(4, .int x7), (3, .ref (B + x5)), (0, .ref (B + a0)), (1, .int a1), (2, .int a2)]) hx hb d_X_behind_26 hl (by decide) rfl (fun ls hl => ?_)
    refine lv_iload_n hx hb d_X_behind_28 rfl (lv_at hl 4 rfl) ?_
    refine lv_iconst (v := 2) hx hb d_X_behind_29 (by decide) ?_
    refine lv_icmp_ne (tgt := 36) hx hb d_X_behind_30 (by decide) (fun hc => ?_) (fun hc => ?_)
    · have hf := cd_f hc hf
      refine lv_iload_n hx hb d_X_behind_36 rfl (lv_at hl 4 rfl) ?_
      refine lv_if_ne (tgt := 51) hx hb d_X_behind_37 (by decide) (fun hc => ?_) (fun hc => ?_)
      · have hf := cd_f hc hf
        refine lv_aload_n hx hb d_X_behind_51 rfl (lv_at hl 2 rfl) ?_
        have ⟨h11, hf⟩ := gd_e hf
        have ⟨x12, h13, hf⟩ := rr_e hf
        refine g_getR hx hb hts hown hK hR fl_X_30 (fun _ => rfl) h11 h13 d_X_behind_52 ?_
        refine lv_iload_n hx hb d_X_behind_55 rfl (lv_at hl 3 rfl) ?_
        have ⟨h17, hf⟩ := gd_e hf
        have ⟨x14, w15, h16, hf⟩ := kl_e hf
        refine g_ki0 (g_rV (As := [.int a1]) (rest := []) hx hb hml hown hts hK hR hS (c_Wo_coins l D cA oc B N x12 a1 w8 h16) I_Wo_coins m_407 m_409 (gRecv hK hR (ci := 9) rfl h17) rfl rfl (Nat.le_of_ble_eq_true rfl) hl.1 ⟨Nat.le_of_ble_eq_true rfl, Nat.le_of_ble_eq_true rfl⟩ ⟨Nat.le_of_ble_eq_true rfl, Nat.le_of_ble_eq_true rfl⟩ d_X_behind_56) hS (fun H locs hR hS => ?_)
        exact g_iret hx hb hr hlocks hR hS hf rfl d_X_behind_59
      have hf := cd_t hc hf
      refine lv_aload_n hx hb d_X_behind_40 rfl (lv_at hl 2 rfl) ?_
      have ⟨h18, hf⟩ := gd_e hf
      have ⟨x19, h20, hf⟩ := rr_e hf
      refine g_getR hx hb hts hown hK hR fl_X_30 (fun _ => rfl) h18 h20 d_X_behind_41 ?_
      refine lv_iload_n hx hb d_X_behind_44 rfl (lv_at hl 3 rfl) ?_
      have ⟨h24, hf⟩ := gd_e hf
      have ⟨x21, w22, h23, hf⟩ := kl_e hf
      refine g_ki0 (g_rV (As := [.int a1]) (rest := []) hx hb hml hown hts hK hR hS (c_Wo_weight l D cA oc B N x19 a1 w8 h23) I_Wo_weight m_403 m_405 (gRecv hK hR (ci := 9) rfl h24) rfl rfl (Nat.le_of_ble_eq_true rfl) hl.1 ⟨Nat.le_of_ble_eq_true rfl, Nat.le_of_ble_eq_true rfl⟩ ⟨Nat.le_of_ble_eq_true rfl, Nat.le_of_ble_eq_true rfl⟩ d_X_behind_45) hS (fun H locs hR hS => ?_)
      refine lv_goto (tgt := 59) hx hb d_X_behind_48 (by decide) ?_
      exact g_iret hx hb hr hlocks hR hS hf rfl d_X_behind_59
    have hf := cd_t hc hf
    refine lv_iload hx hb d_X_behind_33 (lv_at hl 0 rfl) ?_
    exact g_iret hx hb hr hlocks hR hS hf rfl d_X_behind_35
  have hf := cd_f hc hf
  refine lv_iconst (v := (-1)) hx hb d_X_behind_19 (by decide) ?_
  exact g_iret hx hb hr hlocks hR hS hf rfl d_X_behind_20
theorem c_X_behind (l : Launch) (D : va_G) (cA : Nat → ClassId) (oc : gO) (B N : Nat) (a0 : Nat) (a1 : Int32) (a2 : Int32) (w : gW) {wz : gW} {r : Int32} (hf : f_X_behind N a0 a1 a2 w = some (r, wz)) : Met l y_X_behind (Cond.code y_X_behind b_X_behind 5 (some .int) :: lw_good) ({ frames := 8, cells := 0, slots := 0, locals := 216 } : Room) (gPre D cA oc B [.ref (B + a0), .int a1, .int a2] w) (gQi D cA B r wz) 0 0 (gA B) := by
  refine Met.ofW (cc := b_X_behind) (maxL := 5) (ret := (some .int)) (by decide +kernel) rfl ?_
  intro p e s m args below meth c s₁ Bd hml hv
  obtain ⟨hargs, C, hR⟩ := gC.enter (l := l) rfl Bd hml hv
  subst hargs
  have hl := lv_entry ([.ref (B + a0), .int a1, .int a2]) (n := 5) (Nat.le_of_ble_eq_true rfl)
  rw [lg_entry_eq]
  generalize (lg_sl ([.ref (B + a0), .int a1, .int a2]) ++ List.replicate (5 - (lg_sl ([.ref (B + a0), .int a1, .int a2])).length) Slot.unset).toArray = ls at hl ⊢
  have hl : lv_has ls 5 [(0, .ref (B + a0)), (1, .int a1), (2, .int a2)] := hl
  exact c_X_behind_b0 C a0 a1 a2 w (lv_sub hl [0, 1, 2] rfl) hf hR va_S.rf
theorem d_X_who_0 : decode b_X_who 0 = .ok (.bipush (-5), 2) := by decide +kernel
theorem d_X_who_2 : decode b_X_who 2 = .ok (.istore_n 1, 1) := by decide +kernel
theorem d_X_who_3 : decode b_X_who 3 = .ok (.ldc 192, 2) := by decide +kernel
theorem d_X_who_5 : decode b_X_who 5 = .ok (.istore_n 2, 1) := by decide +kernel
theorem d_X_who_6 : decode b_X_who 6 = .ok (.iconst 0, 1) := by decide +kernel
theorem d_X_who_7 : decode b_X_who 7 = .ok (.istore_n 3, 1) := by decide +kernel
theorem d_X_who_8 : decode b_X_who 8 = .ok (.iload_n 3, 1) := by decide +kernel
theorem d_X_who_9 : decode b_X_who 9 = .ok (.aload_n 0, 1) := by decide +kernel
theorem d_X_who_10 : decode b_X_who 10 = .ok (.getfield 23, 3) := by decide +kernel
theorem d_X_who_13 : decode b_X_who 13 = .ok (.getfield 81, 3) := by decide +kernel
theorem d_X_who_16 : decode b_X_who 16 = .ok (.if_icmp .ge 55, 3) := by decide +kernel
theorem d_X_who_19 : decode b_X_who 19 = .ok (.aload_n 0, 1) := by decide +kernel
theorem d_X_who_20 : decode b_X_who 20 = .ok (.aload_n 0, 1) := by decide +kernel
theorem d_X_who_21 : decode b_X_who 21 = .ok (.getfield 23, 3) := by decide +kernel
theorem d_X_who_24 : decode b_X_who 24 = .ok (.getfield 84, 3) := by decide +kernel
theorem d_X_who_27 : decode b_X_who 27 = .ok (.iload_n 3, 1) := by decide +kernel
theorem d_X_who_28 : decode b_X_who 28 = .ok (.aaload, 1) := by decide +kernel
theorem d_X_who_29 : decode b_X_who 29 = .ok (.invokevirtual 188, 3) := by decide +kernel
theorem d_X_who_32 : decode b_X_who 32 = .ok (.aload_n 0, 1) := by decide +kernel
theorem d_X_who_33 : decode b_X_who 33 = .ok (.getfield 23, 3) := by decide +kernel
theorem d_X_who_36 : decode b_X_who 36 = .ok (.getfield 182, 3) := by decide +kernel
theorem d_X_who_39 : decode b_X_who 39 = .ok (.if_icmp .ne 26, 3) := by decide +kernel
theorem d_X_who_42 : decode b_X_who 42 = .ok (.aload_n 0, 1) := by decide +kernel
theorem d_X_who_43 : decode b_X_who 43 = .ok (.getfield 30, 3) := by decide +kernel
theorem d_X_who_46 : decode b_X_who 46 = .ok (.iload_n 3, 1) := by decide +kernel
theorem d_X_who_47 : decode b_X_who 47 = .ok (.invokevirtual 126, 3) := by decide +kernel
theorem d_X_who_50 : decode b_X_who 50 = .ok (.iload_n 2, 1) := by decide +kernel
theorem d_X_who_51 : decode b_X_who 51 = .ok (.if_icmp .ge 14, 3) := by decide +kernel
theorem d_X_who_54 : decode b_X_who 54 = .ok (.aload_n 0, 1) := by decide +kernel
theorem d_X_who_55 : decode b_X_who 55 = .ok (.getfield 30, 3) := by decide +kernel
theorem d_X_who_58 : decode b_X_who 58 = .ok (.iload_n 3, 1) := by decide +kernel
theorem d_X_who_59 : decode b_X_who 59 = .ok (.invokevirtual 126, 3) := by decide +kernel
theorem d_X_who_62 : decode b_X_who 62 = .ok (.istore_n 2, 1) := by decide +kernel
theorem d_X_who_63 : decode b_X_who 63 = .ok (.iload_n 3, 1) := by decide +kernel
theorem d_X_who_64 : decode b_X_who 64 = .ok (.istore_n 1, 1) := by decide +kernel
theorem d_X_who_65 : decode b_X_who 65 = .ok (.iinc 3 1, 3) := by decide +kernel
theorem d_X_who_68 : decode b_X_who 68 = .ok (.goto (-60), 3) := by decide +kernel
theorem d_X_who_71 : decode b_X_who 71 = .ok (.iload_n 1, 1) := by decide +kernel
theorem d_X_who_72 : decode b_X_who 72 = .ok (.ireturn, 1) := by decide +kernel
set_option maxRecDepth 20000 in
theorem c_X_who_b8 {r : Int32} {wz : gW} {rec8 : Nat × Int32 × Int32 × Int32 × gW → Option (Int32 × gW)} (ih8 : ∀ (a0 : Nat) (a1 : Int32) (a2 : Int32) (a3 : Int32) (w : gW) (ls : Array Slot) (H : Heap) (locs : List Loc), rec8 (a0, a1, a2, a3, w) = some (r, wz) → lv_has ls 4 [(0, .ref (B + a0)), (1, .int a1), (2, .int a2), (3, .int a3)] → gRep D cA B w H → va_S (gA B) s.heap H locs → W p l e ({ frames := 8, cells := 0, slots := 0, locals := 216 } : Room) s m args below meth c H locs 0 0 (MQ below (gQi D cA B r wz) args s 0 0 (gA B)) (F0 m 8 ls [])) (C : gC p s m args meth c "RidCoppers" b_X_who 4 (some .int) D cA oc B) (a0 : Nat) (a1 : Int32) (a2 : Int32) (a3 : Int32) (w : gW) {ls : Array Slot} {H : Heap} {locs : List Loc} (hl : lv_has ls 4 [(0, .ref (B + a0)), (1, .int a1), (2, .int a2), (3, .int a3)]) (hf : f_X_who_b8 N rec8 a0 a1 a2 a3 w = some (r, wz)) (hR : gRep D cA B w H) (hS : va_S (gA B) s.heap H locs) : W p l e ({ frames := 8, cells := 0, slots := 0, locals := 216 } : Room) s m args below meth c H locs 0 0 (MQ below (gQi D cA B r wz) args s 0 0 (gA B)) (F0 m 8 ls []) := by
  obtain ⟨hx, hb, hml, hown, hts, hr, hlocks, hK, hBs⟩ := id C
  unfold f_X_who_b8 at hf
  refine lv_iload_n hx hb d_X_who_8 rfl (lv_at hl 3 rfl) ?_
  refine lv_aload_n hx hb d_X_who_9 rfl (lv_at hl 0 rfl) ?_
  have ⟨h1, hf⟩ := gd_e hf
  have ⟨x2, h3, hf⟩ := rr_e hf
  refine g_getR hx hb hts hown hK hR fl_X_23 (fun _ => rfl) h1 h3 d_X_who_10 ?_
  have ⟨h4, hf⟩ := gd_e hf
  refine g_getI hx hb hts hown hK hR fl_X_81 (fun _ => rfl) h4 d_X_who_13 ?_
  refine g_nI hf (fun x5 hf => ?_)
  refine lv_icmp_ge (tgt := 71) hx hb d_X_who_16 (by decide) (fun hc => ?_) (fun hc => ?_)
  · have hf := cd_t hc hf
    refine lv_iload_n hx hb d_X_who_71 rfl (lv_at hl 1 rfl) ?_
    exact g_iret hx hb hr hlocks hR hS hf rfl d_X_who_72
  have hf := cd_f hc hf
  refine lv_aload_n hx hb d_X_who_19 rfl (lv_at hl 0 rfl) ?_
  refine lv_aload_n hx hb d_X_who_20 rfl (lv_at hl 0 rfl) ?_
  refine g_getR hx hb hts hown hK hR fl_X_23 (fun _ => rfl) h1 h3 d_X_who_21 ?_
  have ⟨x6, h7, hf⟩ := rr_e hf
  refine g_getR hx hb hts hown hK hR fl_X_84 (fun _ => rfl) h4 h7 d_X_who_24 ?_
  refine lv_iload_n hx hb d_X_who_27 rfl (lv_at hl 3 rfl) ?_
  have ⟨h8, hf⟩ := gd_e hf
  have ⟨h9, hf⟩ := gd_e hf
  have ⟨x10, h11, hf⟩ := rr_e hf
  refine g_aald hx hb hK hR (by decide) rfl (fun _ _ => rfl) h8 h9 h11 d_X_who_28 ?_
  have ⟨x12, w13, h14, hf⟩ := kl_e hf
  refine g_ki0 (g_rV (As := [.ref (B + x10)]) (rest := []) hx hb hml hown hts hK hR hS (c_X_payRowOnTrial l D cA oc B N a0 x10 w h14) I_X_payRowOnTrial m_762 mp_25 (gRecv hK hR (ci := 11) rfl h1) rfl rfl (Nat.le_of_ble_eq_true rfl) hl.1 ⟨Nat.le_of_ble_eq_true rfl, Nat.le_of_ble_eq_true rfl⟩ ⟨Nat.le_of_ble_eq_true rfl, Nat.le_of_ble_eq_true rfl⟩ d_X_who_29) hS (fun H locs hR hS => ?_)
  refine lv_aload_n hx hb d_X_who_32 rfl (lv_at hl 0 rfl) ?_
  have ⟨h15, hf⟩ := gd_e hf
  have ⟨x16, h17, hf⟩ := rr_e hf
  refine g_getR hx hb hts hown hK hR fl_X_23 (fun _ => rfl) h15 h17 d_X_who_33 ?_
  have ⟨h18, hf⟩ := gd_e hf
  refine g_getI hx hb hts hown hK hR fl_X_182 (fun _ => rfl) h18 d_X_who_36 ?_
  refine g_nI hf (fun x19 hf => ?_)
  refine lv_icmp_ne (tgt := 65) hx hb d_X_who_39 (by decide) (fun hc => ?_) (fun hc => ?_)
  · have hf := cd_f hc hf
    refine g_iinc (lv' := fun x20 => [(3, .int x20), (0, .ref (B + a0)), (1, .int a1), (2, .int a2)]) hf hx hb d_X_who_65 hl (k := 3) rfl (by decide) (by decide) (fun _ => rfl) (fun x20 ls hf hl => ?_)
    refine lv_goto (tgt := 8) hx hb d_X_who_68 (by decide) ?_
    exact ih8 a0 a1 a2 x20 w13 _ _ _ hf (lv_sub hl [1, 2, 3, 0] rfl) hR hS
  have hf := cd_t hc hf
  refine lv_aload_n hx hb d_X_who_42 rfl (lv_at hl 0 rfl) ?_
  have ⟨x21, h22, hf⟩ := rr_e hf
  refine g_getR hx hb hts hown hK hR fl_X_30 (fun _ => rfl) h15 h22 d_X_who_43 ?_
  refine lv_iload_n hx hb d_X_who_46 rfl (lv_at hl 3 rfl) ?_
  have ⟨h26, hf⟩ := gd_e hf
  have ⟨x23, w24, h25, hf⟩ := kl_e hf
  refine g_ki0 (g_rV (As := [.int a3]) (rest := []) hx hb hml hown hts hK hR hS (c_Wo_coins l D cA oc B N x21 a3 w13 h25) I_Wo_coins m_407 m_409 (gRecv hK hR (ci := 9) rfl h26) rfl rfl (Nat.le_of_ble_eq_true rfl) hl.1 ⟨Nat.le_of_ble_eq_true rfl, Nat.le_of_ble_eq_true rfl⟩ ⟨Nat.le_of_ble_eq_true rfl, Nat.le_of_ble_eq_true rfl⟩ d_X_who_47) hS (fun H locs hR hS => ?_)
  refine lv_iload_n hx hb d_X_who_50 rfl (lv_at hl 2 rfl) ?_
  refine lv_icmp_ge (tgt := 65) hx hb d_X_who_51 (by decide) (fun hc => ?_) (fun hc => ?_)
  · have hf := cd_t hc hf
    refine g_iinc (lv' := fun x27 => [(3, .int x27), (0, .ref (B + a0)), (1, .int a1), (2, .int a2)]) hf hx hb d_X_who_65 hl (k := 3) rfl (by decide) (by decide) (fun _ => rfl) (fun x27 ls hf hl => ?_)
    refine lv_goto (tgt := 8) hx hb d_X_who_68 (by decide) ?_
    exact ih8 a0 a1 a2 x27 w24 _ _ _ hf (lv_sub hl [1, 2, 3, 0] rfl) hR hS
  have hf := cd_f hc hf
  refine lv_aload_n hx hb d_X_who_54 rfl (lv_at hl 0 rfl) ?_
  have ⟨h28, hf⟩ := gd_e hf
  have ⟨x29, h30, hf⟩ := rr_e hf
  refine g_getR hx hb hts hown hK hR fl_X_30 (fun _ => rfl) h28 h30 d_X_who_55 ?_
  refine lv_iload_n hx hb d_X_who_58 rfl (lv_at hl 3 rfl) ?_
  have ⟨h34, hf⟩ := gd_e hf
  have ⟨x31, w32, h33, hf⟩ := kl_e hf
  refine g_ki0 (g_rV (As := [.int a3]) (rest := []) hx hb hml hown hts hK hR hS (c_Wo_coins l D cA oc B N x29 a3 w24 h33) I_Wo_coins m_407 m_409 (gRecv hK hR (ci := 9) rfl h34) rfl rfl (Nat.le_of_ble_eq_true rfl) hl.1 ⟨Nat.le_of_ble_eq_true rfl, Nat.le_of_ble_eq_true rfl⟩ ⟨Nat.le_of_ble_eq_true rfl, Nat.le_of_ble_eq_true rfl⟩ d_X_who_59) hS (fun H locs hR hS => ?_)
  refine lv_istore_n (lv' := [(2, .int x31), (0, .ref (B + a0)), (1, .int a1), (3, .int a3)]) hx hb d_X_who_62 rfl hl (by decide) rfl (fun ls hl => ?_)
  refine lv_iload_n hx hb d_X_who_63 rfl (lv_at hl 3 rfl) ?_
  refine lv_istore_n (lv' := [(1, .int a3), (2, .int x31), (0, .ref (B + a0)), (3, .int a3)]) hx hb d_X_who_64 rfl hl (by decide) rfl (fun ls hl => ?_)
  refine g_iinc (lv' := fun x35 => [(3, .int x35), (1, .int a3), (2, .int x31), (0, .ref (B + a0))]) hf hx hb d_X_who_65 hl (k := 3) rfl (by decide) (by decide) (fun _ => rfl) (fun x35 ls hf hl => ?_)
  refine lv_goto (tgt := 8) hx hb d_X_who_68 (by decide) ?_
  exact ih8 a0 a3 x31 x35 w32 _ _ _ hf (lv_sub hl [3, 1, 2, 0] rfl) hR hS
theorem c_X_who_l8 {r : Int32} {wz : gW} (C : gC p s m args meth c "RidCoppers" b_X_who 4 (some .int) D cA oc B) (a0 : Nat) (a1 : Int32) (a2 : Int32) (a3 : Int32) (w : gW) {ls : Array Slot} {H : Heap} {locs : List Loc} (hl : lv_has ls 4 [(0, .ref (B + a0)), (1, .int a1), (2, .int a2), (3, .int a3)]) (hf : f_X_who_l8 N a0 a1 a2 a3 w = some (r, wz)) (hR : gRep D cA B w H) (hS : va_S (gA B) s.heap H locs) : W p l e ({ frames := 8, cells := 0, slots := 0, locals := 216 } : Room) s m args below meth c H locs 0 0 (MQ below (gQi D cA B r wz) args s 0 0 (gA B)) (F0 m 8 ls []) := by
  unfold f_X_who_l8 at hf
  suffices hh : ∀ n : Nat, ∀ (a0 : Nat) (a1 : Int32) (a2 : Int32) (a3 : Int32) (w : gW) (ls : Array Slot) (H : Heap) (locs : List Loc), itr (fun rec (q : Nat × Int32 × Int32 × Int32 × gW) => f_X_who_b8 N rec q.1 q.2.1 q.2.2.1 q.2.2.2.1 q.2.2.2.2) n (a0, a1, a2, a3, w) = some (r, wz) → lv_has ls 4 [(0, .ref (B + a0)), (1, .int a1), (2, .int a2), (3, .int a3)] → gRep D cA B w H → va_S (gA B) s.heap H locs → W p l e ({ frames := 8, cells := 0, slots := 0, locals := 216 } : Room) s m args below meth c H locs 0 0 (MQ below (gQi D cA B r wz) args s 0 0 (gA B)) (F0 m 8 ls []) from hh N a0 a1 a2 a3 w ls H locs hf hl hR hS
  intro n
  induction n with
  | zero => intro a0 a1 a2 a3 w ls H locs hf; cases hf
  | succ n ihn =>
    intro a0 a1 a2 a3 w ls H locs hf hl hR hS
    exact c_X_who_b8 (N := N) ihn C a0 a1 a2 a3 w hl ((itr_s _ _ _).symm.trans hf) hR hS
set_option maxRecDepth 20000 in
theorem c_X_who_b0 {r : Int32} {wz : gW} (C : gC p s m args meth c "RidCoppers" b_X_who 4 (some .int) D cA oc B) (a0 : Nat) (w : gW) {ls : Array Slot} {H : Heap} {locs : List Loc} (hl : lv_has ls 4 [(0, .ref (B + a0))]) (hf : f_X_who_b0 N a0 w = some (r, wz)) (hR : gRep D cA B w H) (hS : va_S (gA B) s.heap H locs) : W p l e ({ frames := 8, cells := 0, slots := 0, locals := 216 } : Room) s m args below meth c H locs 0 0 (MQ below (gQi D cA B r wz) args s 0 0 (gA B)) (F0 m 0 ls []) := by
  obtain ⟨hx, hb, hml, hown, hts, hr, hlocks, hK, hBs⟩ := id C
  unfold f_X_who_b0 at hf
  refine lv_bipush (v := (-5)) hx hb d_X_who_0 (by decide) ?_
  refine lv_istore_n (lv' := [(1, .int (-5)), (0, .ref (B + a0))]) hx hb d_X_who_2 rfl hl (by decide) rfl (fun ls hl => ?_)
  refine lv_ldc hx hb hown (hts _ m_775) d_X_who_3 ?_
  refine lv_istore_n (lv' := [(2, .int 1000000000), (1, .int (-5)), (0, .ref (B + a0))]) hx hb d_X_who_5 rfl hl (by decide) rfl (fun ls hl => ?_)
  refine lv_iconst (v := 0) hx hb d_X_who_6 (by decide) ?_
  refine lv_istore_n (lv' := [(3, .int 0), (2, .int 1000000000), (1, .int (-5)), (0, .ref (B + a0))]) hx hb d_X_who_7 rfl hl (by decide) rfl (fun ls hl => ?_)
  exact c_X_who_l8 C a0 (-5) 1000000000 0 w (lv_sub hl [3, 2, 1, 0] rfl) hf hR hS
theorem c_X_who (l : Launch) (D : va_G) (cA : Nat → ClassId) (oc : gO) (B N : Nat) (a0 : Nat) (w : gW) {wz : gW} {r : Int32} (hf : f_X_who N a0 w = some (r, wz)) : Met l y_X_who (Cond.code y_X_who b_X_who 4 (some .int) :: lw_good) ({ frames := 8, cells := 0, slots := 0, locals := 216 } : Room) (gPre D cA oc B [.ref (B + a0)] w) (gQi D cA B r wz) 0 0 (gA B) := by
  refine Met.ofW (cc := b_X_who) (maxL := 4) (ret := (some .int)) (by decide +kernel) rfl ?_
  intro p e s m args below meth c s₁ Bd hml hv
  obtain ⟨hargs, C, hR⟩ := gC.enter (l := l) rfl Bd hml hv
  subst hargs
  have hl := lv_entry ([.ref (B + a0)]) (n := 4) (Nat.le_of_ble_eq_true rfl)
  rw [lg_entry_eq]
  generalize (lg_sl ([.ref (B + a0)]) ++ List.replicate (4 - (lg_sl ([.ref (B + a0)])).length) Slot.unset).toArray = ls at hl ⊢
  have hl : lv_has ls 4 [(0, .ref (B + a0))] := hl
  exact c_X_who_b0 C a0 w (lv_sub hl [0] rfl) hf hR va_S.rf
theorem d_X_next_0 : decode b_X_next 0 = .ok (.aload_n 0, 1) := by decide +kernel
theorem d_X_next_1 : decode b_X_next 1 = .ok (.iload_n 1, 1) := by decide +kernel
theorem d_X_next_2 : decode b_X_next 2 = .ok (.invokevirtual 92, 3) := by decide +kernel
theorem d_X_next_5 : decode b_X_next 5 = .ok (.astore_n 2, 1) := by decide +kernel
theorem d_X_next_6 : decode b_X_next 6 = .ok (.aload_n 2, 1) := by decide +kernel
theorem d_X_next_7 : decode b_X_next 7 = .ok (.ifnonnull 5, 3) := by decide +kernel
theorem d_X_next_10 : decode b_X_next 10 = .ok (.iconst (-1), 1) := by decide +kernel
theorem d_X_next_11 : decode b_X_next 11 = .ok (.ireturn, 1) := by decide +kernel
theorem d_X_next_12 : decode b_X_next 12 = .ok (.bipush (-5), 2) := by decide +kernel
theorem d_X_next_14 : decode b_X_next 14 = .ok (.istore_n 3, 1) := by decide +kernel
theorem d_X_next_15 : decode b_X_next 15 = .ok (.ldc 192, 2) := by decide +kernel
theorem d_X_next_17 : decode b_X_next 17 = .ok (.istore 4, 2) := by decide +kernel
theorem d_X_next_19 : decode b_X_next 19 = .ok (.iconst 1, 1) := by decide +kernel
theorem d_X_next_20 : decode b_X_next 20 = .ok (.istore 5, 2) := by decide +kernel
theorem d_X_next_22 : decode b_X_next 22 = .ok (.iload 5, 2) := by decide +kernel
theorem d_X_next_24 : decode b_X_next 24 = .ok (.bipush 30, 2) := by decide +kernel
theorem d_X_next_26 : decode b_X_next 26 = .ok (.if_icmp .gt 50, 3) := by decide +kernel
theorem d_X_next_29 : decode b_X_next 29 = .ok (.aload_n 0, 1) := by decide +kernel
theorem d_X_next_30 : decode b_X_next 30 = .ok (.getfield 40, 3) := by decide +kernel
theorem d_X_next_33 : decode b_X_next 33 = .ok (.aload_n 0, 1) := by decide +kernel
theorem d_X_next_34 : decode b_X_next 34 = .ok (.getfield 23, 3) := by decide +kernel
theorem d_X_next_37 : decode b_X_next 37 = .ok (.aload_n 2, 1) := by decide +kernel
theorem d_X_next_38 : decode b_X_next 38 = .ok (.iload 5, 2) := by decide +kernel
theorem d_X_next_40 : decode b_X_next 40 = .ok (.invokevirtual 149, 3) := by decide +kernel
theorem d_X_next_43 : decode b_X_next 43 = .ok (.ifCond .eq 27, 3) := by decide +kernel
theorem d_X_next_46 : decode b_X_next 46 = .ok (.aload_n 0, 1) := by decide +kernel
theorem d_X_next_47 : decode b_X_next 47 = .ok (.getfield 40, 3) := by decide +kernel
theorem d_X_next_50 : decode b_X_next 50 = .ok (.invokevirtual 167, 3) := by decide +kernel
theorem d_X_next_53 : decode b_X_next 53 = .ok (.iload 4, 2) := by decide +kernel
theorem d_X_next_55 : decode b_X_next 55 = .ok (.if_icmp .ge 15, 3) := by decide +kernel
theorem d_X_next_58 : decode b_X_next 58 = .ok (.aload_n 0, 1) := by decide +kernel
theorem d_X_next_59 : decode b_X_next 59 = .ok (.getfield 40, 3) := by decide +kernel
theorem d_X_next_62 : decode b_X_next 62 = .ok (.invokevirtual 167, 3) := by decide +kernel
theorem d_X_next_65 : decode b_X_next 65 = .ok (.istore 4, 2) := by decide +kernel
theorem d_X_next_67 : decode b_X_next 67 = .ok (.iload 5, 2) := by decide +kernel
theorem d_X_next_69 : decode b_X_next 69 = .ok (.istore_n 3, 1) := by decide +kernel
theorem d_X_next_70 : decode b_X_next 70 = .ok (.iinc 5 1, 3) := by decide +kernel
theorem d_X_next_73 : decode b_X_next 73 = .ok (.goto (-51), 3) := by decide +kernel
theorem d_X_next_76 : decode b_X_next 76 = .ok (.iload_n 3, 1) := by decide +kernel
theorem d_X_next_77 : decode b_X_next 77 = .ok (.ireturn, 1) := by decide +kernel
set_option maxRecDepth 20000 in
theorem c_X_next_b22 {r : Int32} {wz : gW} {rec22 : Nat × Nat × Int32 × Int32 × Int32 × gW → Option (Int32 × gW)} (ih22 : ∀ (a0 : Nat) (a2 : Nat) (a3 : Int32) (a4 : Int32) (a5 : Int32) (w : gW) (ls : Array Slot) (H : Heap) (locs : List Loc), rec22 (a0, a2, a3, a4, a5, w) = some (r, wz) → lv_has ls 6 [(0, .ref (B + a0)), (2, .ref (B + a2)), (3, .int a3), (4, .int a4), (5, .int a5)] → gRep D cA B w H → va_S (gA B) s.heap H locs → W p l e ({ frames := 7, cells := 0, slots := 0, locals := 193 } : Room) s m args below meth c H locs 0 0 (MQ below (gQi D cA B r wz) args s 0 0 (gA B)) (F0 m 22 ls [])) (C : gC p s m args meth c "RidCoppers" b_X_next 6 (some .int) D cA oc B) (a0 : Nat) (a2 : Nat) (a3 : Int32) (a4 : Int32) (a5 : Int32) (w : gW) {ls : Array Slot} {H : Heap} {locs : List Loc} (hl : lv_has ls 6 [(0, .ref (B + a0)), (2, .ref (B + a2)), (3, .int a3), (4, .int a4), (5, .int a5)]) (hf : f_X_next_b22 N rec22 a0 a2 a3 a4 a5 w = some (r, wz)) (hR : gRep D cA B w H) (hS : va_S (gA B) s.heap H locs) : W p l e ({ frames := 7, cells := 0, slots := 0, locals := 193 } : Room) s m args below meth c H locs 0 0 (MQ below (gQi D cA B r wz) args s 0 0 (gA B)) (F0 m 22 ls []) := by
  obtain ⟨hx, hb, hml, hown, hts, hr, hlocks, hK, hBs⟩ := id C
  unfold f_X_next_b22 at hf
  refine lv_iload hx hb d_X_next_22 (lv_at hl 4 rfl) ?_
  refine lv_bipush (v := 30) hx hb d_X_next_24 (by decide) ?_
  refine lv_icmp_gt (tgt := 76) hx hb d_X_next_26 (by decide) (fun hc => ?_) (fun hc => ?_)
  · have hf := cd_t hc hf
    refine lv_iload_n hx hb d_X_next_76 rfl (lv_at hl 2 rfl) ?_
    exact g_iret hx hb hr hlocks hR hS hf rfl d_X_next_77
  have hf := cd_f hc hf
  refine lv_aload_n hx hb d_X_next_29 rfl (lv_at hl 0 rfl) ?_
  have ⟨h7, hf⟩ := gd_e hf
  have ⟨x8, h9, hf⟩ := rr_e hf
  refine g_getR hx hb hts hown hK hR fl_X_40 (fun _ => rfl) h7 h9 d_X_next_30 ?_
  refine lv_aload_n hx hb d_X_next_33 rfl (lv_at hl 0 rfl) ?_
  have ⟨x10, h11, hf⟩ := rr_e hf
  refine g_getR hx hb hts hown hK hR fl_X_23 (fun _ => rfl) h7 h11 d_X_next_34 ?_
  refine lv_aload_n hx hb d_X_next_37 rfl (lv_at hl 1 rfl) ?_
  refine lv_iload hx hb d_X_next_38 (lv_at hl 4 rfl) ?_
  have ⟨h15, hf⟩ := gd_e hf
  have ⟨x12, w13, h14, hf⟩ := kl_e hf
  refine g_ki0 (g_rV (As := [.ref (B + x10), .ref (B + a2), .int a5]) (rest := []) hx hb hml hown hts hK hR hS (c_Pm_choose l D cA oc B N x8 x10 a2 a5 w h14) I_Pm_choose m_618 m_620 (gRecv hK hR (ci := 10) rfl h15) rfl rfl (Nat.le_of_ble_eq_true rfl) hl.1 ⟨Nat.le_of_ble_eq_true rfl, Nat.le_of_ble_eq_true rfl⟩ ⟨Nat.le_of_ble_eq_true rfl, Nat.le_of_ble_eq_true rfl⟩ d_X_next_40) hS (fun H locs hR hS => ?_)
  refine lv_if_eq (tgt := 70) hx hb d_X_next_43 (by decide) (fun hc => ?_) (fun hc => ?_)
  · have hf := cd_t hc hf
    refine g_iinc (lv' := fun x16 => [(5, .int x16), (0, .ref (B + a0)), (2, .ref (B + a2)), (3, .int a3), (4, .int a4)]) hf hx hb d_X_next_70 hl (k := 4) rfl (by decide) (by decide) (fun _ => rfl) (fun x16 ls hf hl => ?_)
    refine lv_goto (tgt := 22) hx hb d_X_next_73 (by decide) ?_
    exact ih22 a0 a2 a3 a4 x16 w13 _ _ _ hf (lv_sub hl [1, 2, 3, 4, 0] rfl) hR hS
  have hf := cd_f hc hf
  refine lv_aload_n hx hb d_X_next_46 rfl (lv_at hl 0 rfl) ?_
  have ⟨h17, hf⟩ := gd_e hf
  have ⟨x18, h19, hf⟩ := rr_e hf
  refine g_getR hx hb hts hown hK hR fl_X_40 (fun _ => rfl) h17 h19 d_X_next_47 ?_
  have ⟨h23, hf⟩ := gd_e hf
  have ⟨x20, w21, h22, hf⟩ := kl_e hf
  refine g_ki0 (g_rV (As := []) (rest := []) hx hb hml hown hts hK hR hS (c_Pm_coinsBehind l D cA oc B N x18 w13 h22) I_Pm_coinsBehind m_723 m_725 (gRecv hK hR (ci := 10) rfl h23) rfl rfl (Nat.le_of_ble_eq_true rfl) hl.1 ⟨Nat.le_of_ble_eq_true rfl, Nat.le_of_ble_eq_true rfl⟩ ⟨Nat.le_of_ble_eq_true rfl, Nat.le_of_ble_eq_true rfl⟩ d_X_next_50) hS (fun H locs hR hS => ?_)
  refine lv_iload hx hb d_X_next_53 (lv_at hl 3 rfl) ?_
  refine lv_icmp_ge (tgt := 70) hx hb d_X_next_55 (by decide) (fun hc => ?_) (fun hc => ?_)
  · have hf := cd_t hc hf
    refine g_iinc (lv' := fun x24 => [(5, .int x24), (0, .ref (B + a0)), (2, .ref (B + a2)), (3, .int a3), (4, .int a4)]) hf hx hb d_X_next_70 hl (k := 4) rfl (by decide) (by decide) (fun _ => rfl) (fun x24 ls hf hl => ?_)
    refine lv_goto (tgt := 22) hx hb d_X_next_73 (by decide) ?_
    exact ih22 a0 a2 a3 a4 x24 w21 _ _ _ hf (lv_sub hl [1, 2, 3, 4, 0] rfl) hR hS
  have hf := cd_f hc hf
  refine lv_aload_n hx hb d_X_next_58 rfl (lv_at hl 0 rfl) ?_
  have ⟨h25, hf⟩ := gd_e hf
  have ⟨x26, h27, hf⟩ := rr_e hf
  refine g_getR hx hb hts hown hK hR fl_X_40 (fun _ => rfl) h25 h27 d_X_next_59 ?_
  have ⟨h31, hf⟩ := gd_e hf
  have ⟨x28, w29, h30, hf⟩ := kl_e hf
  refine g_ki0 (g_rV (As := []) (rest := []) hx hb hml hown hts hK hR hS (c_Pm_coinsBehind l D cA oc B N x26 w21 h30) I_Pm_coinsBehind m_723 m_725 (gRecv hK hR (ci := 10) rfl h31) rfl rfl (Nat.le_of_ble_eq_true rfl) hl.1 ⟨Nat.le_of_ble_eq_true rfl, Nat.le_of_ble_eq_true rfl⟩ ⟨Nat.le_of_ble_eq_true rfl, Nat.le_of_ble_eq_true rfl⟩ d_X_next_62) hS (fun H locs hR hS => ?_)
  refine lv_istore (lv' := [(4, .int x28), (0, .ref (B + a0)), (2, .ref (B + a2)), (3, .int a3), (5, .int a5)]) hx hb d_X_next_65 hl (by decide) rfl (fun ls hl => ?_)
  refine lv_iload hx hb d_X_next_67 (lv_at hl 4 rfl) ?_
  refine lv_istore_n (lv' := [(3, .int a5), (4, .int x28), (0, .ref (B + a0)), (2, .ref (B + a2)), (5, .int a5)]) hx hb d_X_next_69 rfl hl (by decide) rfl (fun ls hl => ?_)
  refine g_iinc (lv' := fun x32 => [(5, .int x32), (3, .int a5), (4, .int x28), (0, .ref (B + a0)), (2, .ref (B + a2))]) hf hx hb d_X_next_70 hl (k := 4) rfl (by decide) (by decide) (fun _ => rfl) (fun x32 ls hf hl => ?_)
  refine lv_goto (tgt := 22) hx hb d_X_next_73 (by decide) ?_
  exact ih22 a0 a2 a5 x28 x32 w29 _ _ _ hf (lv_sub hl [3, 4, 1, 2, 0] rfl) hR hS
theorem c_X_next_l22 {r : Int32} {wz : gW} (C : gC p s m args meth c "RidCoppers" b_X_next 6 (some .int) D cA oc B) (a0 : Nat) (a2 : Nat) (a3 : Int32) (a4 : Int32) (a5 : Int32) (w : gW) {ls : Array Slot} {H : Heap} {locs : List Loc} (hl : lv_has ls 6 [(0, .ref (B + a0)), (2, .ref (B + a2)), (3, .int a3), (4, .int a4), (5, .int a5)]) (hf : f_X_next_l22 N a0 a2 a3 a4 a5 w = some (r, wz)) (hR : gRep D cA B w H) (hS : va_S (gA B) s.heap H locs) : W p l e ({ frames := 7, cells := 0, slots := 0, locals := 193 } : Room) s m args below meth c H locs 0 0 (MQ below (gQi D cA B r wz) args s 0 0 (gA B)) (F0 m 22 ls []) := by
  unfold f_X_next_l22 at hf
  suffices hh : ∀ n : Nat, ∀ (a0 : Nat) (a2 : Nat) (a3 : Int32) (a4 : Int32) (a5 : Int32) (w : gW) (ls : Array Slot) (H : Heap) (locs : List Loc), itr (fun rec (q : Nat × Nat × Int32 × Int32 × Int32 × gW) => f_X_next_b22 N rec q.1 q.2.1 q.2.2.1 q.2.2.2.1 q.2.2.2.2.1 q.2.2.2.2.2) n (a0, a2, a3, a4, a5, w) = some (r, wz) → lv_has ls 6 [(0, .ref (B + a0)), (2, .ref (B + a2)), (3, .int a3), (4, .int a4), (5, .int a5)] → gRep D cA B w H → va_S (gA B) s.heap H locs → W p l e ({ frames := 7, cells := 0, slots := 0, locals := 193 } : Room) s m args below meth c H locs 0 0 (MQ below (gQi D cA B r wz) args s 0 0 (gA B)) (F0 m 22 ls []) from hh N a0 a2 a3 a4 a5 w ls H locs hf hl hR hS
  intro n
  induction n with
  | zero => intro a0 a2 a3 a4 a5 w ls H locs hf; cases hf
  | succ n ihn =>
    intro a0 a2 a3 a4 a5 w ls H locs hf hl hR hS
    exact c_X_next_b22 (N := N) ihn C a0 a2 a3 a4 a5 w hl ((itr_s _ _ _).symm.trans hf) hR hS
set_option maxRecDepth 20000 in
theorem c_X_next_b0 {r : Int32} {wz : gW} (C : gC p s m args meth c "RidCoppers" b_X_next 6 (some .int) D cA oc B) (a0 : Nat) (a1 : Int32) (w : gW) {ls : Array Slot} {H : Heap} {locs : List Loc} (hl : lv_has ls 6 [(0, .ref (B + a0)), (1, .int a1)]) (hf : f_X_next_b0 N a0 a1 w = some (r, wz)) (hR : gRep D cA B w H) (hS : va_S (gA B) s.heap H locs) : W p l e ({ frames := 7, cells := 0, slots := 0, locals := 193 } : Room) s m args below meth c H locs 0 0 (MQ below (gQi D cA B r wz) args s 0 0 (gA B)) (F0 m 0 ls []) := by
  obtain ⟨hx, hb, hml, hown, hts, hr, hlocks, hK, hBs⟩ := id C
  unfold f_X_next_b0 at hf
  refine lv_aload_n hx hb d_X_next_0 rfl (lv_at hl 0 rfl) ?_
  refine lv_iload_n hx hb d_X_next_1 rfl (lv_at hl 1 rfl) ?_
  have ⟨h4, hf⟩ := gd_e hf
  have ⟨x1, w2, h3, hf⟩ := kl_e hf
  refine g_kr0 (g_rV (As := [.int a1]) (rest := []) hx hb hml hown hts hK hR hS (c_X_payerAt l D cA oc B N a0 a1 w h3) I_X_payerAt m_374 mp_0 (gRecv hK hR (ci := 11) rfl h4) rfl rfl (Nat.le_of_ble_eq_true rfl) hl.1 ⟨Nat.le_of_ble_eq_true rfl, Nat.le_of_ble_eq_true rfl⟩ ⟨Nat.le_of_ble_eq_true rfl, Nat.le_of_ble_eq_true rfl⟩ d_X_next_2) hS (fun H locs hR hS => ?_)
  rcases x1 with _ | x5
  · have hf := nr_n hf
    refine lv_astore_nN (lv' := [(2, .null), (0, .ref (B + a0)), (1, .int a1)]) hx hb d_X_next_5 rfl hl (by decide) rfl (fun ls hl => ?_)
    refine lv_aload_nN hx hb d_X_next_6 rfl (lv_at hl 0 rfl) ?_
    refine lv_ifnonnullN hx hb d_X_next_7 ?_
    refine lv_iconst (v := (-1)) hx hb d_X_next_10 (by decide) ?_
    exact g_iret hx hb hr hlocks hR hS hf rfl d_X_next_11
  have hf := nr_s hf
  refine lv_astore_n (lv' := [(2, .ref (B + x5)), (0, .ref (B + a0)), (1, .int a1)]) hx hb d_X_next_5 rfl hl (by decide) rfl (fun ls hl => ?_)
  refine lv_aload_n hx hb d_X_next_6 rfl (lv_at hl 0 rfl) ?_
  refine lv_ifnonnull (tgt := 12) hx hb d_X_next_7 (by decide) ?_
  refine lv_bipush (v := (-5)) hx hb d_X_next_12 (by decide) ?_
  refine lv_istore_n (lv' := [(3, .int (-5)), (2, .ref (B + x5)), (0, .ref (B + a0)), (1, .int a1)]) hx hb d_X_next_14 rfl hl (by decide) rfl (fun ls hl => ?_)
  refine lv_ldc hx hb hown (hts _ m_775) d_X_next_15 ?_
  refine lv_istore (lv' := [(4, .int 1000000000), (3, .int (-5)), (2, .ref (B + x5)), (0, .ref (B + a0)), (1, .int a1)]) hx hb d_X_next_17 hl (by decide) rfl (fun ls hl => ?_)
  refine lv_iconst (v := 1) hx hb d_X_next_19 (by decide) ?_
  refine lv_istore (lv' := [(5, .int 1), (4, .int 1000000000), (3, .int (-5)), (2, .ref (B + x5)), (0, .ref (B + a0)), (1, .int a1)]) hx hb d_X_next_20 hl (by decide) rfl (fun ls hl => ?_)
  exact c_X_next_l22 C a0 x5 (-5) 1000000000 1 w2 (lv_sub hl [4, 3, 2, 1, 0] rfl) hf hR hS
theorem c_X_next (l : Launch) (D : va_G) (cA : Nat → ClassId) (oc : gO) (B N : Nat) (a0 : Nat) (a1 : Int32) (w : gW) {wz : gW} {r : Int32} (hf : f_X_next N a0 a1 w = some (r, wz)) : Met l y_X_next (Cond.code y_X_next b_X_next 6 (some .int) :: lw_good) ({ frames := 7, cells := 0, slots := 0, locals := 193 } : Room) (gPre D cA oc B [.ref (B + a0), .int a1] w) (gQi D cA B r wz) 0 0 (gA B) := by
  refine Met.ofW (cc := b_X_next) (maxL := 6) (ret := (some .int)) (by decide +kernel) rfl ?_
  intro p e s m args below meth c s₁ Bd hml hv
  obtain ⟨hargs, C, hR⟩ := gC.enter (l := l) rfl Bd hml hv
  subst hargs
  have hl := lv_entry ([.ref (B + a0), .int a1]) (n := 6) (Nat.le_of_ble_eq_true rfl)
  rw [lg_entry_eq]
  generalize (lg_sl ([.ref (B + a0), .int a1]) ++ List.replicate (6 - (lg_sl ([.ref (B + a0), .int a1])).length) Slot.unset).toArray = ls at hl ⊢
  have hl : lv_has ls 6 [(0, .ref (B + a0)), (1, .int a1)] := hl
  exact c_X_next_b0 C a0 a1 w (lv_sub hl [0, 1] rfl) hf hR va_S.rf
theorem d_X_shortOf_0 : decode b_X_shortOf 0 = .ok (.aload_n 0, 1) := by decide +kernel
theorem d_X_shortOf_1 : decode b_X_shortOf 1 = .ok (.iload_n 1, 1) := by decide +kernel
theorem d_X_shortOf_2 : decode b_X_shortOf 2 = .ok (.invokevirtual 92, 3) := by decide +kernel
theorem d_X_shortOf_5 : decode b_X_shortOf 5 = .ok (.astore_n 2, 1) := by decide +kernel
theorem d_X_shortOf_6 : decode b_X_shortOf 6 = .ok (.aload_n 2, 1) := by decide +kernel
theorem d_X_shortOf_7 : decode b_X_shortOf 7 = .ok (.ifnonnull 5, 3) := by decide +kernel
theorem d_X_shortOf_10 : decode b_X_shortOf 10 = .ok (.iconst (-1), 1) := by decide +kernel
theorem d_X_shortOf_11 : decode b_X_shortOf 11 = .ok (.ireturn, 1) := by decide +kernel
theorem d_X_shortOf_12 : decode b_X_shortOf 12 = .ok (.aload_n 0, 1) := by decide +kernel
theorem d_X_shortOf_13 : decode b_X_shortOf 13 = .ok (.getfield 23, 3) := by decide +kernel
theorem d_X_shortOf_16 : decode b_X_shortOf 16 = .ok (.iload_n 1, 1) := by decide +kernel
theorem d_X_shortOf_17 : decode b_X_shortOf 17 = .ok (.invokevirtual 193, 3) := by decide +kernel
theorem d_X_shortOf_20 : decode b_X_shortOf 20 = .ok (.istore_n 3, 1) := by decide +kernel
theorem d_X_shortOf_21 : decode b_X_shortOf 21 = .ok (.iconst 1, 1) := by decide +kernel
theorem d_X_shortOf_22 : decode b_X_shortOf 22 = .ok (.istore 4, 2) := by decide +kernel
theorem d_X_shortOf_24 : decode b_X_shortOf 24 = .ok (.iload 4, 2) := by decide +kernel
theorem d_X_shortOf_26 : decode b_X_shortOf 26 = .ok (.bipush 60, 2) := by decide +kernel
theorem d_X_shortOf_28 : decode b_X_shortOf 28 = .ok (.if_icmp .gt 35, 3) := by decide +kernel
theorem d_X_shortOf_31 : decode b_X_shortOf 31 = .ok (.iload 4, 2) := by decide +kernel
theorem d_X_shortOf_33 : decode b_X_shortOf 33 = .ok (.iload_n 3, 1) := by decide +kernel
theorem d_X_shortOf_34 : decode b_X_shortOf 34 = .ok (.if_icmp .gt 29, 3) := by decide +kernel
theorem d_X_shortOf_37 : decode b_X_shortOf 37 = .ok (.aload_n 0, 1) := by decide +kernel
theorem d_X_shortOf_38 : decode b_X_shortOf 38 = .ok (.getfield 40, 3) := by decide +kernel
theorem d_X_shortOf_41 : decode b_X_shortOf 41 = .ok (.aload_n 0, 1) := by decide +kernel
theorem d_X_shortOf_42 : decode b_X_shortOf 42 = .ok (.getfield 23, 3) := by decide +kernel
theorem d_X_shortOf_45 : decode b_X_shortOf 45 = .ok (.aload_n 2, 1) := by decide +kernel
theorem d_X_shortOf_46 : decode b_X_shortOf 46 = .ok (.iload 4, 2) := by decide +kernel
theorem d_X_shortOf_48 : decode b_X_shortOf 48 = .ok (.invokevirtual 196, 3) := by decide +kernel
theorem d_X_shortOf_51 : decode b_X_shortOf 51 = .ok (.ifCond .ne 6, 3) := by decide +kernel
theorem d_X_shortOf_54 : decode b_X_shortOf 54 = .ok (.iload 4, 2) := by decide +kernel
theorem d_X_shortOf_56 : decode b_X_shortOf 56 = .ok (.ireturn, 1) := by decide +kernel
theorem d_X_shortOf_57 : decode b_X_shortOf 57 = .ok (.iinc 4 1, 3) := by decide +kernel
theorem d_X_shortOf_60 : decode b_X_shortOf 60 = .ok (.goto (-36), 3) := by decide +kernel
theorem d_X_shortOf_63 : decode b_X_shortOf 63 = .ok (.bipush (-5), 2) := by decide +kernel
theorem d_X_shortOf_65 : decode b_X_shortOf 65 = .ok (.ireturn, 1) := by decide +kernel
set_option maxRecDepth 20000 in
theorem c_X_shortOf_b24 {r : Int32} {wz : gW} {rec24 : Nat × Nat × Int32 × Int32 × gW → Option (Int32 × gW)} (ih24 : ∀ (a0 : Nat) (a2 : Nat) (a3 : Int32) (a4 : Int32) (w : gW) (ls : Array Slot) (H : Heap) (locs : List Loc), rec24 (a0, a2, a3, a4, w) = some (r, wz) → lv_has ls 5 [(0, .ref (B + a0)), (2, .ref (B + a2)), (3, .int a3), (4, .int a4)] → gRep D cA B w H → va_S (gA B) s.heap H locs → W p l e ({ frames := 7, cells := 0, slots := 0, locals := 187 } : Room) s m args below meth c H locs 0 0 (MQ below (gQi D cA B r wz) args s 0 0 (gA B)) (F0 m 24 ls [])) (C : gC p s m args meth c "RidCoppers" b_X_shortOf 5 (some .int) D cA oc B) (a0 : Nat) (a2 : Nat) (a3 : Int32) (a4 : Int32) (w : gW) {ls : Array Slot} {H : Heap} {locs : List Loc} (hl : lv_has ls 5 [(0, .ref (B + a0)), (2, .ref (B + a2)), (3, .int a3), (4, .int a4)]) (hf : f_X_shortOf_b24 N rec24 a0 a2 a3 a4 w = some (r, wz)) (hR : gRep D cA B w H) (hS : va_S (gA B) s.heap H locs) : W p l e ({ frames := 7, cells := 0, slots := 0, locals := 187 } : Room) s m args below meth c H locs 0 0 (MQ below (gQi D cA B r wz) args s 0 0 (gA B)) (F0 m 24 ls []) := by
  obtain ⟨hx, hb, hml, hown, hts, hr, hlocks, hK, hBs⟩ := id C
  unfold f_X_shortOf_b24 at hf
  refine lv_iload hx hb d_X_shortOf_24 (lv_at hl 3 rfl) ?_
  refine lv_bipush (v := 60) hx hb d_X_shortOf_26 (by decide) ?_
  refine lv_icmp_gt (tgt := 63) hx hb d_X_shortOf_28 (by decide) (fun hc => ?_) (fun hc => ?_)
  · have hf := cd_t hc hf
    refine lv_bipush (v := (-5)) hx hb d_X_shortOf_63 (by decide) ?_
    exact g_iret hx hb hr hlocks hR hS hf rfl d_X_shortOf_65
  have hf := cd_f hc hf
  refine lv_iload hx hb d_X_shortOf_31 (lv_at hl 3 rfl) ?_
  refine lv_iload_n hx hb d_X_shortOf_33 rfl (lv_at hl 2 rfl) ?_
  refine lv_icmp_gt (tgt := 63) hx hb d_X_shortOf_34 (by decide) (fun hc => ?_) (fun hc => ?_)
  · have hf := cd_t hc hf
    refine lv_bipush (v := (-5)) hx hb d_X_shortOf_63 (by decide) ?_
    exact g_iret hx hb hr hlocks hR hS hf rfl d_X_shortOf_65
  have hf := cd_f hc hf
  refine lv_aload_n hx hb d_X_shortOf_37 rfl (lv_at hl 0 rfl) ?_
  have ⟨h14, hf⟩ := gd_e hf
  have ⟨x15, h16, hf⟩ := rr_e hf
  refine g_getR hx hb hts hown hK hR fl_X_40 (fun _ => rfl) h14 h16 d_X_shortOf_38 ?_
  refine lv_aload_n hx hb d_X_shortOf_41 rfl (lv_at hl 0 rfl) ?_
  have ⟨x17, h18, hf⟩ := rr_e hf
  refine g_getR hx hb hts hown hK hR fl_X_23 (fun _ => rfl) h14 h18 d_X_shortOf_42 ?_
  refine lv_aload_n hx hb d_X_shortOf_45 rfl (lv_at hl 1 rfl) ?_
  refine lv_iload hx hb d_X_shortOf_46 (lv_at hl 3 rfl) ?_
  have ⟨h22, hf⟩ := gd_e hf
  have ⟨x19, w20, h21, hf⟩ := kl_e hf
  refine g_ki0 (g_rV (As := [.ref (B + x17), .ref (B + a2), .int a4]) (rest := []) hx hb hml hown hts hK hR hS (c_Pm_canPay l D cA oc B N x15 x17 a2 a4 w h21) I_Pm_canPay m_789 m_791 (gRecv hK hR (ci := 10) rfl h22) rfl rfl (Nat.le_of_ble_eq_true rfl) hl.1 ⟨Nat.le_of_ble_eq_true rfl, Nat.le_of_ble_eq_true rfl⟩ ⟨Nat.le_of_ble_eq_true rfl, Nat.le_of_ble_eq_true rfl⟩ d_X_shortOf_48) hS (fun H locs hR hS => ?_)
  refine lv_if_ne (tgt := 57) hx hb d_X_shortOf_51 (by decide) (fun hc => ?_) (fun hc => ?_)
  · have hf := cd_f hc hf
    refine g_iinc (lv' := fun x23 => [(4, .int x23), (0, .ref (B + a0)), (2, .ref (B + a2)), (3, .int a3)]) hf hx hb d_X_shortOf_57 hl (k := 3) rfl (by decide) (by decide) (fun _ => rfl) (fun x23 ls hf hl => ?_)
    refine lv_goto (tgt := 24) hx hb d_X_shortOf_60 (by decide) ?_
    exact ih24 a0 a2 a3 x23 w20 _ _ _ hf (lv_sub hl [1, 2, 3, 0] rfl) hR hS
  have hf := cd_t hc hf
  refine lv_iload hx hb d_X_shortOf_54 (lv_at hl 3 rfl) ?_
  exact g_iret hx hb hr hlocks hR hS hf rfl d_X_shortOf_56
theorem c_X_shortOf_l24 {r : Int32} {wz : gW} (C : gC p s m args meth c "RidCoppers" b_X_shortOf 5 (some .int) D cA oc B) (a0 : Nat) (a2 : Nat) (a3 : Int32) (a4 : Int32) (w : gW) {ls : Array Slot} {H : Heap} {locs : List Loc} (hl : lv_has ls 5 [(0, .ref (B + a0)), (2, .ref (B + a2)), (3, .int a3), (4, .int a4)]) (hf : f_X_shortOf_l24 N a0 a2 a3 a4 w = some (r, wz)) (hR : gRep D cA B w H) (hS : va_S (gA B) s.heap H locs) : W p l e ({ frames := 7, cells := 0, slots := 0, locals := 187 } : Room) s m args below meth c H locs 0 0 (MQ below (gQi D cA B r wz) args s 0 0 (gA B)) (F0 m 24 ls []) := by
  unfold f_X_shortOf_l24 at hf
  suffices hh : ∀ n : Nat, ∀ (a0 : Nat) (a2 : Nat) (a3 : Int32) (a4 : Int32) (w : gW) (ls : Array Slot) (H : Heap) (locs : List Loc), itr (fun rec (q : Nat × Nat × Int32 × Int32 × gW) => f_X_shortOf_b24 N rec q.1 q.2.1 q.2.2.1 q.2.2.2.1 q.2.2.2.2) n (a0, a2, a3, a4, w) = some (r, wz) → lv_has ls 5 [(0, .ref (B + a0)), (2, .ref (B + a2)), (3, .int a3), (4, .int a4)] → gRep D cA B w H → va_S (gA B) s.heap H locs → W p l e ({ frames := 7, cells := 0, slots := 0, locals := 187 } : Room) s m args below meth c H locs 0 0 (MQ below (gQi D cA B r wz) args s 0 0 (gA B)) (F0 m 24 ls []) from hh N a0 a2 a3 a4 w ls H locs hf hl hR hS
  intro n
  induction n with
  | zero => intro a0 a2 a3 a4 w ls H locs hf; cases hf
  | succ n ihn =>
    intro a0 a2 a3 a4 w ls H locs hf hl hR hS
    exact c_X_shortOf_b24 (N := N) ihn C a0 a2 a3 a4 w hl ((itr_s _ _ _).symm.trans hf) hR hS
set_option maxRecDepth 20000 in
theorem c_X_shortOf_b0 {r : Int32} {wz : gW} (C : gC p s m args meth c "RidCoppers" b_X_shortOf 5 (some .int) D cA oc B) (a0 : Nat) (a1 : Int32) (w : gW) {ls : Array Slot} {H : Heap} {locs : List Loc} (hl : lv_has ls 5 [(0, .ref (B + a0)), (1, .int a1)]) (hf : f_X_shortOf_b0 N a0 a1 w = some (r, wz)) (hR : gRep D cA B w H) (hS : va_S (gA B) s.heap H locs) : W p l e ({ frames := 7, cells := 0, slots := 0, locals := 187 } : Room) s m args below meth c H locs 0 0 (MQ below (gQi D cA B r wz) args s 0 0 (gA B)) (F0 m 0 ls []) := by
  obtain ⟨hx, hb, hml, hown, hts, hr, hlocks, hK, hBs⟩ := id C
  unfold f_X_shortOf_b0 at hf
  refine lv_aload_n hx hb d_X_shortOf_0 rfl (lv_at hl 0 rfl) ?_
  refine lv_iload_n hx hb d_X_shortOf_1 rfl (lv_at hl 1 rfl) ?_
  have ⟨h4, hf⟩ := gd_e hf
  have ⟨x1, w2, h3, hf⟩ := kl_e hf
  refine g_kr0 (g_rV (As := [.int a1]) (rest := []) hx hb hml hown hts hK hR hS (c_X_payerAt l D cA oc B N a0 a1 w h3) I_X_payerAt m_374 mp_0 (gRecv hK hR (ci := 11) rfl h4) rfl rfl (Nat.le_of_ble_eq_true rfl) hl.1 ⟨Nat.le_of_ble_eq_true rfl, Nat.le_of_ble_eq_true rfl⟩ ⟨Nat.le_of_ble_eq_true rfl, Nat.le_of_ble_eq_true rfl⟩ d_X_shortOf_2) hS (fun H locs hR hS => ?_)
  rcases x1 with _ | x5
  · have hf := nr_n hf
    refine lv_astore_nN (lv' := [(2, .null), (0, .ref (B + a0)), (1, .int a1)]) hx hb d_X_shortOf_5 rfl hl (by decide) rfl (fun ls hl => ?_)
    refine lv_aload_nN hx hb d_X_shortOf_6 rfl (lv_at hl 0 rfl) ?_
    refine lv_ifnonnullN hx hb d_X_shortOf_7 ?_
    refine lv_iconst (v := (-1)) hx hb d_X_shortOf_10 (by decide) ?_
    exact g_iret hx hb hr hlocks hR hS hf rfl d_X_shortOf_11
  have hf := nr_s hf
  refine lv_astore_n (lv' := [(2, .ref (B + x5)), (0, .ref (B + a0)), (1, .int a1)]) hx hb d_X_shortOf_5 rfl hl (by decide) rfl (fun ls hl => ?_)
  refine lv_aload_n hx hb d_X_shortOf_6 rfl (lv_at hl 0 rfl) ?_
  refine lv_ifnonnull (tgt := 12) hx hb d_X_shortOf_7 (by decide) ?_
  refine lv_aload_n hx hb d_X_shortOf_12 rfl (lv_at hl 1 rfl) ?_
  have ⟨h7, hf⟩ := gd_e hf
  have ⟨x8, h9, hf⟩ := rr_e hf
  refine g_getR hx hb hts hown hK hR fl_X_23 (fun _ => rfl) h7 h9 d_X_shortOf_13 ?_
  refine lv_iload_n hx hb d_X_shortOf_16 rfl (lv_at hl 2 rfl) ?_
  have ⟨h13, hf⟩ := gd_e hf
  have ⟨x10, w11, h12, hf⟩ := kl_e hf
  refine g_ki0 (g_rV (As := [.int a1]) (rest := []) hx hb hml hown hts hK hR hS (c_Wo_worth l D cA oc B N x8 a1 w2 h12) I_Wo_worth m_784 m_786 (gRecv hK hR (ci := 9) rfl h13) rfl rfl (Nat.le_of_ble_eq_true rfl) hl.1 ⟨Nat.le_of_ble_eq_true rfl, Nat.le_of_ble_eq_true rfl⟩ ⟨Nat.le_of_ble_eq_true rfl, Nat.le_of_ble_eq_true rfl⟩ d_X_shortOf_17) hS (fun H locs hR hS => ?_)
  refine lv_istore_n (lv' := [(3, .int x10), (2, .ref (B + x5)), (0, .ref (B + a0)), (1, .int a1)]) hx hb d_X_shortOf_20 rfl hl (by decide) rfl (fun ls hl => ?_)
  refine lv_iconst (v := 1) hx hb d_X_shortOf_21 (by decide) ?_
  refine lv_istore (lv' := [(4, .int 1), (3, .int x10), (2, .ref (B + x5)), (0, .ref (B + a0)), (1, .int a1)]) hx hb d_X_shortOf_22 hl (by decide) rfl (fun ls hl => ?_)
  exact c_X_shortOf_l24 C a0 x5 x10 1 w11 (lv_sub hl [3, 2, 1, 0] rfl) hf hR hS
theorem c_X_shortOf (l : Launch) (D : va_G) (cA : Nat → ClassId) (oc : gO) (B N : Nat) (a0 : Nat) (a1 : Int32) (w : gW) {wz : gW} {r : Int32} (hf : f_X_shortOf N a0 a1 w = some (r, wz)) : Met l y_X_shortOf (Cond.code y_X_shortOf b_X_shortOf 5 (some .int) :: lw_good) ({ frames := 7, cells := 0, slots := 0, locals := 187 } : Room) (gPre D cA oc B [.ref (B + a0), .int a1] w) (gQi D cA B r wz) 0 0 (gA B) := by
  refine Met.ofW (cc := b_X_shortOf) (maxL := 5) (ret := (some .int)) (by decide +kernel) rfl ?_
  intro p e s m args below meth c s₁ Bd hml hv
  obtain ⟨hargs, C, hR⟩ := gC.enter (l := l) rfl Bd hml hv
  subst hargs
  have hl := lv_entry ([.ref (B + a0), .int a1]) (n := 5) (Nat.le_of_ble_eq_true rfl)
  rw [lg_entry_eq]
  generalize (lg_sl ([.ref (B + a0), .int a1]) ++ List.replicate (5 - (lg_sl ([.ref (B + a0), .int a1])).length) Slot.unset).toArray = ls at hl ⊢
  have hl : lv_has ls 5 [(0, .ref (B + a0)), (1, .int a1)] := hl
  exact c_X_shortOf_b0 C a0 a1 w (lv_sub hl [0, 1] rfl) hf hR va_S.rf
theorem d_X_more_0 : decode b_X_more 0 = .ok (.aload_n 0, 1) := by decide +kernel
theorem d_X_more_1 : decode b_X_more 1 = .ok (.iload_n 1, 1) := by decide +kernel
theorem d_X_more_2 : decode b_X_more 2 = .ok (.invokevirtual 92, 3) := by decide +kernel
theorem d_X_more_5 : decode b_X_more 5 = .ok (.astore 4, 2) := by decide +kernel
theorem d_X_more_7 : decode b_X_more 7 = .ok (.aload 4, 2) := by decide +kernel
theorem d_X_more_9 : decode b_X_more 9 = .ok (.ifnull 10, 3) := by decide +kernel
theorem d_X_more_12 : decode b_X_more 12 = .ok (.iload_n 3, 1) := by decide +kernel
theorem d_X_more_13 : decode b_X_more 13 = .ok (.invokestatic 96, 3) := by decide +kernel
theorem d_X_more_16 : decode b_X_more 16 = .ok (.ifCond .ne 6, 3) := by decide +kernel
theorem d_X_more_19 : decode b_X_more 19 = .ok (.ldc 199, 2) := by decide +kernel
theorem d_X_more_21 : decode b_X_more 21 = .ok (.ireturn, 1) := by decide +kernel
theorem d_X_more_22 : decode b_X_more 22 = .ok (.iload_n 2, 1) := by decide +kernel
theorem d_X_more_23 : decode b_X_more 23 = .ok (.invokestatic 146, 3) := by decide +kernel
theorem d_X_more_26 : decode b_X_more 26 = .ok (.ifCond .ne 6, 3) := by decide +kernel
theorem d_X_more_29 : decode b_X_more 29 = .ok (.ldc 200, 2) := by decide +kernel
theorem d_X_more_31 : decode b_X_more 31 = .ok (.ireturn, 1) := by decide +kernel
theorem d_X_more_32 : decode b_X_more 32 = .ok (.aload_n 0, 1) := by decide +kernel
theorem d_X_more_33 : decode b_X_more 33 = .ok (.getfield 40, 3) := by decide +kernel
theorem d_X_more_36 : decode b_X_more 36 = .ok (.aload_n 0, 1) := by decide +kernel
theorem d_X_more_37 : decode b_X_more 37 = .ok (.getfield 23, 3) := by decide +kernel
theorem d_X_more_40 : decode b_X_more 40 = .ok (.aload 4, 2) := by decide +kernel
theorem d_X_more_42 : decode b_X_more 42 = .ok (.iload_n 2, 1) := by decide +kernel
theorem d_X_more_43 : decode b_X_more 43 = .ok (.invokevirtual 149, 3) := by decide +kernel
theorem d_X_more_46 : decode b_X_more 46 = .ok (.ifCond .ne 5, 3) := by decide +kernel
theorem d_X_more_49 : decode b_X_more 49 = .ok (.iconst 0, 1) := by decide +kernel
theorem d_X_more_50 : decode b_X_more 50 = .ok (.ireturn, 1) := by decide +kernel
theorem d_X_more_51 : decode b_X_more 51 = .ok (.aload_n 0, 1) := by decide +kernel
theorem d_X_more_52 : decode b_X_more 52 = .ok (.getfield 40, 3) := by decide +kernel
theorem d_X_more_55 : decode b_X_more 55 = .ok (.invokevirtual 171, 3) := by decide +kernel
theorem d_X_more_58 : decode b_X_more 58 = .ok (.istore 5, 2) := by decide +kernel
theorem d_X_more_60 : decode b_X_more 60 = .ok (.aload_n 0, 1) := by decide +kernel
theorem d_X_more_61 : decode b_X_more 61 = .ok (.getfield 30, 3) := by decide +kernel
theorem d_X_more_64 : decode b_X_more 64 = .ok (.aload_n 0, 1) := by decide +kernel
theorem d_X_more_65 : decode b_X_more 65 = .ok (.getfield 23, 3) := by decide +kernel
theorem d_X_more_68 : decode b_X_more 68 = .ok (.invokevirtual 201, 3) := by decide +kernel
theorem d_X_more_71 : decode b_X_more 71 = .ok (.aload_n 0, 1) := by decide +kernel
theorem d_X_more_72 : decode b_X_more 72 = .ok (.getfield 30, 3) := by decide +kernel
theorem d_X_more_75 : decode b_X_more 75 = .ok (.getfield 78, 3) := by decide +kernel
theorem d_X_more_78 : decode b_X_more 78 = .ok (.iload_n 3, 1) := by decide +kernel
theorem d_X_more_79 : decode b_X_more 79 = .ok (.bipush 99, 2) := by decide +kernel
theorem d_X_more_81 : decode b_X_more 81 = .ok (.aload_n 0, 1) := by decide +kernel
theorem d_X_more_82 : decode b_X_more 82 = .ok (.getfield 30, 3) := by decide +kernel
theorem d_X_more_85 : decode b_X_more 85 = .ok (.getfield 78, 3) := by decide +kernel
theorem d_X_more_88 : decode b_X_more 88 = .ok (.iload_n 3, 1) := by decide +kernel
theorem d_X_more_89 : decode b_X_more 89 = .ok (.iaload, 1) := by decide +kernel
theorem d_X_more_90 : decode b_X_more 90 = .ok (.iconst 1, 1) := by decide +kernel
theorem d_X_more_91 : decode b_X_more 91 = .ok (.iadd, 1) := by decide +kernel
theorem d_X_more_92 : decode b_X_more 92 = .ok (.invokestatic 205, 3) := by decide +kernel
theorem d_X_more_95 : decode b_X_more 95 = .ok (.iastore, 1) := by decide +kernel
theorem d_X_more_96 : decode b_X_more 96 = .ok (.aload_n 0, 1) := by decide +kernel
theorem d_X_more_97 : decode b_X_more 97 = .ok (.getfield 40, 3) := by decide +kernel
theorem d_X_more_100 : decode b_X_more 100 = .ok (.aload_n 0, 1) := by decide +kernel
theorem d_X_more_101 : decode b_X_more 101 = .ok (.getfield 30, 3) := by decide +kernel
theorem d_X_more_104 : decode b_X_more 104 = .ok (.aload 4, 2) := by decide +kernel
theorem d_X_more_106 : decode b_X_more 106 = .ok (.iload_n 2, 1) := by decide +kernel
theorem d_X_more_107 : decode b_X_more 107 = .ok (.invokevirtual 149, 3) := by decide +kernel
theorem d_X_more_110 : decode b_X_more 110 = .ok (.ifCond .ne 5, 3) := by decide +kernel
theorem d_X_more_113 : decode b_X_more 113 = .ok (.iconst 0, 1) := by decide +kernel
theorem d_X_more_114 : decode b_X_more 114 = .ok (.ireturn, 1) := by decide +kernel
theorem d_X_more_115 : decode b_X_more 115 = .ok (.aload_n 0, 1) := by decide +kernel
theorem d_X_more_116 : decode b_X_more 116 = .ok (.getfield 40, 3) := by decide +kernel
theorem d_X_more_119 : decode b_X_more 119 = .ok (.invokevirtual 171, 3) := by decide +kernel
theorem d_X_more_122 : decode b_X_more 122 = .ok (.iload 5, 2) := by decide +kernel
theorem d_X_more_124 : decode b_X_more 124 = .ok (.isub, 1) := by decide +kernel
theorem d_X_more_125 : decode b_X_more 125 = .ok (.ireturn, 1) := by decide +kernel
set_option maxRecDepth 20000 in
theorem c_X_more_b0 {r : Int32} {wz : gW} (C : gC p s m args meth c "RidCoppers" b_X_more 6 (some .int) D cA oc B) (a0 : Nat) (a1 : Int32) (a2 : Int32) (a3 : Int32) (w : gW) {ls : Array Slot} {H : Heap} {locs : List Loc} (hl : lv_has ls 6 [(0, .ref (B + a0)), (1, .int a1), (2, .int a2), (3, .int a3)]) (hf : f_X_more_b0 N a0 a1 a2 a3 w = some (r, wz)) (hR : gRep D cA B w H) (hS : va_S (gA B) s.heap H locs) : W p l e ({ frames := 7, cells := 0, slots := 0, locals := 193 } : Room) s m args below meth c H locs 0 0 (MQ below (gQi D cA B r wz) args s 0 0 (gA B)) (F0 m 0 ls []) := by
  obtain ⟨hx, hb, hml, hown, hts, hr, hlocks, hK, hBs⟩ := id C
  unfold f_X_more_b0 at hf
  refine lv_aload_n hx hb d_X_more_0 rfl (lv_at hl 0 rfl) ?_
  refine lv_iload_n hx hb d_X_more_1 rfl (lv_at hl 1 rfl) ?_
  have ⟨h4, hf⟩ := gd_e hf
  have ⟨x1, w2, h3, hf⟩ := kl_e hf
  refine g_kr0 (g_rV (As := [.int a1]) (rest := []) hx hb hml hown hts hK hR hS (c_X_payerAt l D cA oc B N a0 a1 w h3) I_X_payerAt m_374 mp_0 (gRecv hK hR (ci := 11) rfl h4) rfl rfl (Nat.le_of_ble_eq_true rfl) hl.1 ⟨Nat.le_of_ble_eq_true rfl, Nat.le_of_ble_eq_true rfl⟩ ⟨Nat.le_of_ble_eq_true rfl, Nat.le_of_ble_eq_true rfl⟩ d_X_more_2) hS (fun H locs hR hS => ?_)
  rcases x1 with _ | x5
  · have hf := nr_n hf
    refine lv_astoreN (lv' := [(4, .null), (0, .ref (B + a0)), (1, .int a1), (2, .int a2), (3, .int a3)]) hx hb d_X_more_5 hl (by decide) rfl (fun ls hl => ?_)
    refine lv_aloadN hx hb d_X_more_7 (lv_at hl 0 rfl) ?_
    refine lv_ifnullN (tgt := 19) hx hb d_X_more_9 (by decide) ?_
    refine lv_ldc hx hb hown (hts _ m_797) d_X_more_19 ?_
    exact g_iret hx hb hr hlocks hR hS hf rfl d_X_more_21
  have hf := nr_s hf
  refine lv_astore (lv' := [(4, .ref (B + x5)), (0, .ref (B + a0)), (1, .int a1), (2, .int a2), (3, .int a3)]) hx hb d_X_more_5 hl (by decide) rfl (fun ls hl => ?_)
  refine lv_aload hx hb d_X_more_7 (lv_at hl 0 rfl) ?_
  refine lv_ifnull hx hb d_X_more_9 ?_
  refine lv_iload_n hx hb d_X_more_12 rfl (lv_at hl 4 rfl) ?_
  have ⟨x7, w8, h9, hf⟩ := kl_e hf
  refine g_ki0 (g_rS (As := [.int a3]) (rest := []) hx hb hml hown hts hK hR hS (c_X_isSort l D cA oc B N a3 w2 h9) I_X_isSort m_378 rfl rfl (Nat.le_of_ble_eq_true rfl) hl.1 ⟨Nat.le_of_ble_eq_true rfl, Nat.le_of_ble_eq_true rfl⟩ ⟨Nat.le_of_ble_eq_true rfl, Nat.le_of_ble_eq_true rfl⟩ d_X_more_13) hS (fun H locs hR hS => ?_)
  refine lv_if_ne (tgt := 22) hx hb d_X_more_16 (by decide) (fun hc => ?_) (fun hc => ?_)
  · have hf := cd_f hc hf
    refine lv_iload_n hx hb d_X_more_22 rfl (lv_at hl 3 rfl) ?_
    have ⟨x10, w11, h12, hf⟩ := kl_e hf
    refine g_ki0 (g_rS (As := [.int a2]) (rest := []) hx hb hml hown hts hK hR hS (c_X_isPrice l D cA oc B N a2 w8 h12) I_X_isPrice m_615 rfl rfl (Nat.le_of_ble_eq_true rfl) hl.1 ⟨Nat.le_of_ble_eq_true rfl, Nat.le_of_ble_eq_true rfl⟩ ⟨Nat.le_of_ble_eq_true rfl, Nat.le_of_ble_eq_true rfl⟩ d_X_more_23) hS (fun H locs hR hS => ?_)
    refine lv_if_ne (tgt := 32) hx hb d_X_more_26 (by decide) (fun hc => ?_) (fun hc => ?_)
    · have hf := cd_f hc hf
      refine lv_aload_n hx hb d_X_more_32 rfl (lv_at hl 1 rfl) ?_
      have ⟨h13, hf⟩ := gd_e hf
      have ⟨x14, h15, hf⟩ := rr_e hf
      refine g_getR hx hb hts hown hK hR fl_X_40 (fun _ => rfl) h13 h15 d_X_more_33 ?_
      refine lv_aload_n hx hb d_X_more_36 rfl (lv_at hl 1 rfl) ?_
      have ⟨x16, h17, hf⟩ := rr_e hf
      refine g_getR hx hb hts hown hK hR fl_X_23 (fun _ => rfl) h13 h17 d_X_more_37 ?_
      refine lv_aload hx hb d_X_more_40 (lv_at hl 0 rfl) ?_
      refine lv_iload_n hx hb d_X_more_42 rfl (lv_at hl 3 rfl) ?_
      have ⟨h21, hf⟩ := gd_e hf
      have ⟨x18, w19, h20, hf⟩ := kl_e hf
      refine g_ki0 (g_rV (As := [.ref (B + x16), .ref (B + x5), .int a2]) (rest := []) hx hb hml hown hts hK hR hS (c_Pm_choose l D cA oc B N x14 x16 x5 a2 w11 h20) I_Pm_choose m_618 m_620 (gRecv hK hR (ci := 10) rfl h21) rfl rfl (Nat.le_of_ble_eq_true rfl) hl.1 ⟨Nat.le_of_ble_eq_true rfl, Nat.le_of_ble_eq_true rfl⟩ ⟨Nat.le_of_ble_eq_true rfl, Nat.le_of_ble_eq_true rfl⟩ d_X_more_43) hS (fun H locs hR hS => ?_)
      refine lv_if_ne (tgt := 51) hx hb d_X_more_46 (by decide) (fun hc => ?_) (fun hc => ?_)
      · have hf := cd_f hc hf
        refine lv_aload_n hx hb d_X_more_51 rfl (lv_at hl 1 rfl) ?_
        have ⟨h22, hf⟩ := gd_e hf
        have ⟨x23, h24, hf⟩ := rr_e hf
        refine g_getR hx hb hts hown hK hR fl_X_40 (fun _ => rfl) h22 h24 d_X_more_52 ?_
        have ⟨h28, hf⟩ := gd_e hf
        have ⟨x25, w26, h27, hf⟩ := kl_e hf
        refine g_ki0 (g_rV (As := []) (rest := []) hx hb hml hown hts hK hR hS (c_Pm_weightBehind l D cA oc B N x23 w19 h27) I_Pm_weightBehind m_728 m_676 (gRecv hK hR (ci := 10) rfl h28) rfl rfl (Nat.le_of_ble_eq_true rfl) hl.1 ⟨Nat.le_of_ble_eq_true rfl, Nat.le_of_ble_eq_true rfl⟩ ⟨Nat.le_of_ble_eq_true rfl, Nat.le_of_ble_eq_true rfl⟩ d_X_more_55) hS (fun H locs hR hS => ?_)
        refine lv_istore (lv' := [(5, .int x25), (4, .ref (B + x5)), (0, .ref (B + a0)), (1, .int a1), (2, .int a2), (3, .int a3)]) hx hb d_X_more_58 hl (by decide) rfl (fun ls hl => ?_)
        refine lv_aload_n hx hb d_X_more_60 rfl (lv_at hl 2 rfl) ?_
        have ⟨h29, hf⟩ := gd_e hf
        have ⟨x30, h31, hf⟩ := rr_e hf
        refine g_getR hx hb hts hown hK hR fl_X_30 (fun _ => rfl) h29 h31 d_X_more_61 ?_
        refine lv_aload_n hx hb d_X_more_64 rfl (lv_at hl 2 rfl) ?_
        have ⟨x32, h33, hf⟩ := rr_e hf
        refine g_getR hx hb hts hown hK hR fl_X_23 (fun _ => rfl) h29 h33 d_X_more_65 ?_
        have ⟨h37, hf⟩ := gd_e hf
        have ⟨x34, w35, h36, hf⟩ := kl_e hf
        refine g_kv0 (g_rV (As := [.ref (B + x32)]) (rest := []) hx hb hml hown hts hK hR hS (c_Wo_become l D cA oc B N x30 x32 w26 h36) I_Wo_become m_766 m_768 (gRecv hK hR (ci := 9) rfl h37) rfl rfl (Nat.le_of_ble_eq_true rfl) hl.1 ⟨Nat.le_of_ble_eq_true rfl, Nat.le_of_ble_eq_true rfl⟩ ⟨Nat.le_of_ble_eq_true rfl, Nat.le_of_ble_eq_true rfl⟩ d_X_more_68) hS (fun H locs hR hS => ?_)
        refine lv_aload_n hx hb d_X_more_71 rfl (lv_at hl 2 rfl) ?_
        have ⟨h38, hf⟩ := gd_e hf
        have ⟨x39, h40, hf⟩ := rr_e hf
        refine g_getR hx hb hts hown hK hR fl_X_30 (fun _ => rfl) h38 h40 d_X_more_72 ?_
        have ⟨h41, hf⟩ := gd_e hf
        have ⟨x42, h43, hf⟩ := rr_e hf
        refine g_getR hx hb hts hown hK hR fl_X_78 (fun _ => rfl) h41 h43 d_X_more_75 ?_
        refine lv_iload_n hx hb d_X_more_78 rfl (lv_at hl 5 rfl) ?_
        refine lv_bipush (v := 99) hx hb d_X_more_79 (by decide) ?_
        refine lv_aload_n hx hb d_X_more_81 rfl (lv_at hl 2 rfl) ?_
        refine g_getR hx hb hts hown hK hR fl_X_30 (fun _ => rfl) h38 h40 d_X_more_82 ?_
        refine g_getR hx hb hts hown hK hR fl_X_78 (fun _ => rfl) h41 h43 d_X_more_85 ?_
        refine lv_iload_n hx hb d_X_more_88 rfl (lv_at hl 5 rfl) ?_
        have ⟨h44, hf⟩ := gd_e hf
        have ⟨h45, hf⟩ := gd_e hf
        refine g_iald hx hb hK hR h44 h45 d_X_more_89 ?_
        refine g_nI hf (fun x46 hf => ?_)
        refine lv_iconst (v := 1) hx hb d_X_more_90 (by decide) ?_
        refine lv_iadd hx hb d_X_more_91 ?_
        refine g_nI hf (fun x47 hf => ?_)
        refine va_mmin hx hb (hml.trans hl.1.symm) hown (hts _ m_799) (hts _ m_553) (hts _ m_18) (hts _ m_554) (Nat.le_of_ble_eq_true rfl) (Nat.le_of_ble_eq_true rfl) (Nat.zero_le _) (Nat.zero_le _) d_X_more_92 ?_
        refine g_nI hf (fun x48 hf => ?_)
        refine g_iast hx hb hK hR hS h44 h45 d_X_more_95 (fun H locs hR hS => ?_)
        refine g_nW hf hR (fun w49 hf hR => ?_)
        refine lv_aload_n hx hb d_X_more_96 rfl (lv_at hl 2 rfl) ?_
        have ⟨h50, hf⟩ := gd_e hf
        have ⟨x51, h52, hf⟩ := rr_e hf
        refine g_getR hx hb hts hown hK hR fl_X_40 (fun _ => rfl) h50 h52 d_X_more_97 ?_
        refine lv_aload_n hx hb d_X_more_100 rfl (lv_at hl 2 rfl) ?_
        have ⟨x53, h54, hf⟩ := rr_e hf
        refine g_getR hx hb hts hown hK hR fl_X_30 (fun _ => rfl) h50 h54 d_X_more_101 ?_
        refine lv_aload hx hb d_X_more_104 (lv_at hl 1 rfl) ?_
        refine lv_iload_n hx hb d_X_more_106 rfl (lv_at hl 4 rfl) ?_
        have ⟨h58, hf⟩ := gd_e hf
        have ⟨x55, w56, h57, hf⟩ := kl_e hf
        refine g_ki0 (g_rV (As := [.ref (B + x53), .ref (B + x5), .int a2]) (rest := []) hx hb hml hown hts hK hR hS (c_Pm_choose l D cA oc B N x51 x53 x5 a2 w49 h57) I_Pm_choose m_618 m_620 (gRecv hK hR (ci := 10) rfl h58) rfl rfl (Nat.le_of_ble_eq_true rfl) hl.1 ⟨Nat.le_of_ble_eq_true rfl, Nat.le_of_ble_eq_true rfl⟩ ⟨Nat.le_of_ble_eq_true rfl, Nat.le_of_ble_eq_true rfl⟩ d_X_more_107) hS (fun H locs hR hS => ?_)
        refine lv_if_ne (tgt := 115) hx hb d_X_more_110 (by decide) (fun hc => ?_) (fun hc => ?_)
        · have hf := cd_f hc hf
          refine lv_aload_n hx hb d_X_more_115 rfl (lv_at hl 2 rfl) ?_
          have ⟨h59, hf⟩ := gd_e hf
          have ⟨x60, h61, hf⟩ := rr_e hf
          refine g_getR hx hb hts hown hK hR fl_X_40 (fun _ => rfl) h59 h61 d_X_more_116 ?_
          have ⟨h65, hf⟩ := gd_e hf
          have ⟨x62, w63, h64, hf⟩ := kl_e hf
          refine g_ki0 (g_rV (As := []) (rest := []) hx hb hml hown hts hK hR hS (c_Pm_weightBehind l D cA oc B N x60 w56 h64) I_Pm_weightBehind m_728 m_676 (gRecv hK hR (ci := 10) rfl h65) rfl rfl (Nat.le_of_ble_eq_true rfl) hl.1 ⟨Nat.le_of_ble_eq_true rfl, Nat.le_of_ble_eq_true rfl⟩ ⟨Nat.le_of_ble_eq_true rfl, Nat.le_of_ble_eq_true rfl⟩ d_X_more_119) hS (fun H locs hR hS => ?_)
          refine lv_iload hx hb d_X_more_122 (lv_at hl 0 rfl) ?_
          refine lv_isub hx hb d_X_more_124 ?_
          refine g_nI hf (fun x66 hf => ?_)
          exact g_iret hx hb hr hlocks hR hS hf rfl d_X_more_125
        have hf := cd_t hc hf
        refine lv_iconst (v := 0) hx hb d_X_more_113 (by decide) ?_
        exact g_iret hx hb hr hlocks hR hS hf rfl d_X_more_114
      have hf := cd_t hc hf
      refine lv_iconst (v := 0) hx hb d_X_more_49 (by decide) ?_
      exact g_iret hx hb hr hlocks hR hS hf rfl d_X_more_50
    have hf := cd_t hc hf
    refine lv_ldc hx hb hown (hts _ m_798) d_X_more_29 ?_
    exact g_iret hx hb hr hlocks hR hS hf rfl d_X_more_31
  have hf := cd_t hc hf
  refine lv_ldc hx hb hown (hts _ m_797) d_X_more_19 ?_
  exact g_iret hx hb hr hlocks hR hS hf rfl d_X_more_21
theorem c_X_more (l : Launch) (D : va_G) (cA : Nat → ClassId) (oc : gO) (B N : Nat) (a0 : Nat) (a1 : Int32) (a2 : Int32) (a3 : Int32) (w : gW) {wz : gW} {r : Int32} (hf : f_X_more N a0 a1 a2 a3 w = some (r, wz)) : Met l y_X_more (Cond.code y_X_more b_X_more 6 (some .int) :: lw_good) ({ frames := 7, cells := 0, slots := 0, locals := 193 } : Room) (gPre D cA oc B [.ref (B + a0), .int a1, .int a2, .int a3] w) (gQi D cA B r wz) 0 0 (gA B) := by
  refine Met.ofW (cc := b_X_more) (maxL := 6) (ret := (some .int)) (by decide +kernel) rfl ?_
  intro p e s m args below meth c s₁ Bd hml hv
  obtain ⟨hargs, C, hR⟩ := gC.enter (l := l) rfl Bd hml hv
  subst hargs
  have hl := lv_entry ([.ref (B + a0), .int a1, .int a2, .int a3]) (n := 6) (Nat.le_of_ble_eq_true rfl)
  rw [lg_entry_eq]
  generalize (lg_sl ([.ref (B + a0), .int a1, .int a2, .int a3]) ++ List.replicate (6 - (lg_sl ([.ref (B + a0), .int a1, .int a2, .int a3])).length) Slot.unset).toArray = ls at hl ⊢
  have hl : lv_has ls 6 [(0, .ref (B + a0)), (1, .int a1), (2, .int a2), (3, .int a3)] := hl
  exact c_X_more_b0 C a0 a1 a2 a3 w (lv_sub hl [0, 1, 2, 3] rfl) hf hR va_S.rf
theorem d_X_heaviest_0 : decode b_X_heaviest 0 = .ok (.aload_n 0, 1) := by decide +kernel
theorem d_X_heaviest_1 : decode b_X_heaviest 1 = .ok (.iload_n 1, 1) := by decide +kernel
theorem d_X_heaviest_2 : decode b_X_heaviest 2 = .ok (.invokevirtual 92, 3) := by decide +kernel
theorem d_X_heaviest_5 : decode b_X_heaviest 5 = .ok (.astore_n 3, 1) := by decide +kernel
theorem d_X_heaviest_6 : decode b_X_heaviest 6 = .ok (.aload_n 3, 1) := by decide +kernel
theorem d_X_heaviest_7 : decode b_X_heaviest 7 = .ok (.ifnonnull 5, 3) := by decide +kernel
theorem d_X_heaviest_10 : decode b_X_heaviest 10 = .ok (.iconst (-1), 1) := by decide +kernel
theorem d_X_heaviest_11 : decode b_X_heaviest 11 = .ok (.ireturn, 1) := by decide +kernel
theorem d_X_heaviest_12 : decode b_X_heaviest 12 = .ok (.iload_n 2, 1) := by decide +kernel
theorem d_X_heaviest_13 : decode b_X_heaviest 13 = .ok (.iconst 1, 1) := by decide +kernel
theorem d_X_heaviest_14 : decode b_X_heaviest 14 = .ok (.if_icmp .lt 9, 3) := by decide +kernel
theorem d_X_heaviest_17 : decode b_X_heaviest 17 = .ok (.iload_n 2, 1) := by decide +kernel
theorem d_X_heaviest_18 : decode b_X_heaviest 18 = .ok (.bipush 8, 2) := by decide +kernel
theorem d_X_heaviest_20 : decode b_X_heaviest 20 = .ok (.if_icmp .le 6, 3) := by decide +kernel
theorem d_X_heaviest_23 : decode b_X_heaviest 23 = .ok (.bipush (-2), 2) := by decide +kernel
theorem d_X_heaviest_25 : decode b_X_heaviest 25 = .ok (.ireturn, 1) := by decide +kernel
theorem d_X_heaviest_26 : decode b_X_heaviest 26 = .ok (.aload_n 0, 1) := by decide +kernel
theorem d_X_heaviest_27 : decode b_X_heaviest 27 = .ok (.getfield 30, 3) := by decide +kernel
theorem d_X_heaviest_30 : decode b_X_heaviest 30 = .ok (.aload_n 0, 1) := by decide +kernel
theorem d_X_heaviest_31 : decode b_X_heaviest 31 = .ok (.getfield 23, 3) := by decide +kernel
theorem d_X_heaviest_34 : decode b_X_heaviest 34 = .ok (.invokevirtual 201, 3) := by decide +kernel
theorem d_X_heaviest_37 : decode b_X_heaviest 37 = .ok (.aload_n 0, 1) := by decide +kernel
theorem d_X_heaviest_38 : decode b_X_heaviest 38 = .ok (.getfield 30, 3) := by decide +kernel
theorem d_X_heaviest_41 : decode b_X_heaviest 41 = .ok (.iload_n 1, 1) := by decide +kernel
theorem d_X_heaviest_42 : decode b_X_heaviest 42 = .ok (.invokevirtual 122, 3) := by decide +kernel
theorem d_X_heaviest_45 : decode b_X_heaviest 45 = .ok (.istore 4, 2) := by decide +kernel
theorem d_X_heaviest_47 : decode b_X_heaviest 47 = .ok (.iconst 1, 1) := by decide +kernel
theorem d_X_heaviest_48 : decode b_X_heaviest 48 = .ok (.istore 5, 2) := by decide +kernel
theorem d_X_heaviest_50 : decode b_X_heaviest 50 = .ok (.iload 5, 2) := by decide +kernel
theorem d_X_heaviest_52 : decode b_X_heaviest 52 = .ok (.iload_n 2, 1) := by decide +kernel
theorem d_X_heaviest_53 : decode b_X_heaviest 53 = .ok (.if_icmp .gt 51, 3) := by decide +kernel
theorem d_X_heaviest_56 : decode b_X_heaviest 56 = .ok (.aload_n 0, 1) := by decide +kernel
theorem d_X_heaviest_57 : decode b_X_heaviest 57 = .ok (.getfield 40, 3) := by decide +kernel
theorem d_X_heaviest_60 : decode b_X_heaviest 60 = .ok (.aload_n 0, 1) := by decide +kernel
theorem d_X_heaviest_61 : decode b_X_heaviest 61 = .ok (.getfield 30, 3) := by decide +kernel
theorem d_X_heaviest_64 : decode b_X_heaviest 64 = .ok (.aload_n 3, 1) := by decide +kernel
theorem d_X_heaviest_65 : decode b_X_heaviest 65 = .ok (.bipush 7, 2) := by decide +kernel
theorem d_X_heaviest_67 : decode b_X_heaviest 67 = .ok (.iload 5, 2) := by decide +kernel
theorem d_X_heaviest_69 : decode b_X_heaviest 69 = .ok (.imul, 1) := by decide +kernel
theorem d_X_heaviest_70 : decode b_X_heaviest 70 = .ok (.invokevirtual 149, 3) := by decide +kernel
theorem d_X_heaviest_73 : decode b_X_heaviest 73 = .ok (.ifCond .eq 25, 3) := by decide +kernel
theorem d_X_heaviest_76 : decode b_X_heaviest 76 = .ok (.aload_n 0, 1) := by decide +kernel
theorem d_X_heaviest_77 : decode b_X_heaviest 77 = .ok (.getfield 40, 3) := by decide +kernel
theorem d_X_heaviest_80 : decode b_X_heaviest 80 = .ok (.invokevirtual 153, 3) := by decide +kernel
theorem d_X_heaviest_83 : decode b_X_heaviest 83 = .ok (.iload 4, 2) := by decide +kernel
theorem d_X_heaviest_85 : decode b_X_heaviest 85 = .ok (.aload_n 0, 1) := by decide +kernel
theorem d_X_heaviest_86 : decode b_X_heaviest 86 = .ok (.getfield 30, 3) := by decide +kernel
theorem d_X_heaviest_89 : decode b_X_heaviest 89 = .ok (.iload_n 1, 1) := by decide +kernel
theorem d_X_heaviest_90 : decode b_X_heaviest 90 = .ok (.invokevirtual 122, 3) := by decide +kernel
theorem d_X_heaviest_93 : decode b_X_heaviest 93 = .ok (.invokestatic 211, 3) := by decide +kernel
theorem d_X_heaviest_96 : decode b_X_heaviest 96 = .ok (.istore 4, 2) := by decide +kernel
theorem d_X_heaviest_98 : decode b_X_heaviest 98 = .ok (.iinc 5 1, 3) := by decide +kernel
theorem d_X_heaviest_101 : decode b_X_heaviest 101 = .ok (.goto (-51), 3) := by decide +kernel
theorem d_X_heaviest_104 : decode b_X_heaviest 104 = .ok (.iload 4, 2) := by decide +kernel
theorem d_X_heaviest_106 : decode b_X_heaviest 106 = .ok (.ireturn, 1) := by decide +kernel
set_option maxRecDepth 20000 in
theorem c_X_heaviest_b50 {r : Int32} {wz : gW} {rec50 : Nat × Int32 × Int32 × Nat × Int32 × Int32 × gW → Option (Int32 × gW)} (ih50 : ∀ (a0 : Nat) (a1 : Int32) (a2 : Int32) (a3 : Nat) (a4 : Int32) (a5 : Int32) (w : gW) (ls : Array Slot) (H : Heap) (locs : List Loc), rec50 (a0, a1, a2, a3, a4, a5, w) = some (r, wz) → lv_has ls 6 [(0, .ref (B + a0)), (1, .int a1), (2, .int a2), (3, .ref (B + a3)), (4, .int a4), (5, .int a5)] → gRep D cA B w H → va_S (gA B) s.heap H locs → W p l e ({ frames := 7, cells := 0, slots := 0, locals := 193 } : Room) s m args below meth c H locs 0 0 (MQ below (gQi D cA B r wz) args s 0 0 (gA B)) (F0 m 50 ls [])) (C : gC p s m args meth c "RidCoppers" b_X_heaviest 6 (some .int) D cA oc B) (a0 : Nat) (a1 : Int32) (a2 : Int32) (a3 : Nat) (a4 : Int32) (a5 : Int32) (w : gW) {ls : Array Slot} {H : Heap} {locs : List Loc} (hl : lv_has ls 6 [(0, .ref (B + a0)), (1, .int a1), (2, .int a2), (3, .ref (B + a3)), (4, .int a4), (5, .int a5)]) (hf : f_X_heaviest_b50 N rec50 a0 a1 a2 a3 a4 a5 w = some (r, wz)) (hR : gRep D cA B w H) (hS : va_S (gA B) s.heap H locs) : W p l e ({ frames := 7, cells := 0, slots := 0, locals := 193 } : Room) s m args below meth c H locs 0 0 (MQ below (gQi D cA B r wz) args s 0 0 (gA B)) (F0 m 50 ls []) := by
  obtain ⟨hx, hb, hml, hown, hts, hr, hlocks, hK, hBs⟩ := id C
  unfold f_X_heaviest_b50 at hf
  refine lv_iload hx hb d_X_heaviest_50 (lv_at hl 5 rfl) ?_
  refine lv_iload_n hx hb d_X_heaviest_52 rfl (lv_at hl 2 rfl) ?_
  refine lv_icmp_gt (tgt := 104) hx hb d_X_heaviest_53 (by decide) (fun hc => ?_) (fun hc => ?_)
  · have hf := cd_t hc hf
    refine lv_iload hx hb d_X_heaviest_104 (lv_at hl 4 rfl) ?_
    exact g_iret hx hb hr hlocks hR hS hf rfl d_X_heaviest_106
  have hf := cd_f hc hf
  refine lv_aload_n hx hb d_X_heaviest_56 rfl (lv_at hl 0 rfl) ?_
  have ⟨h23, hf⟩ := gd_e hf
  have ⟨x24, h25, hf⟩ := rr_e hf
  refine g_getR hx hb hts hown hK hR fl_X_40 (fun _ => rfl) h23 h25 d_X_heaviest_57 ?_
  refine lv_aload_n hx hb d_X_heaviest_60 rfl (lv_at hl 0 rfl) ?_
  have ⟨x26, h27, hf⟩ := rr_e hf
  refine g_getR hx hb hts hown hK hR fl_X_30 (fun _ => rfl) h23 h27 d_X_heaviest_61 ?_
  refine lv_aload_n hx hb d_X_heaviest_64 rfl (lv_at hl 3 rfl) ?_
  refine lv_bipush (v := 7) hx hb d_X_heaviest_65 (by decide) ?_
  refine lv_iload hx hb d_X_heaviest_67 (lv_at hl 5 rfl) ?_
  refine lv_imul hx hb d_X_heaviest_69 ?_
  refine g_nI hf (fun x28 hf => ?_)
  have ⟨h32, hf⟩ := gd_e hf
  have ⟨x29, w30, h31, hf⟩ := kl_e hf
  refine g_ki0 (g_rV (As := [.ref (B + x26), .ref (B + a3), .int x28]) (rest := []) hx hb hml hown hts hK hR hS (c_Pm_choose l D cA oc B N x24 x26 a3 x28 w h31) I_Pm_choose m_618 m_620 (gRecv hK hR (ci := 10) rfl h32) rfl rfl (Nat.le_of_ble_eq_true rfl) hl.1 ⟨Nat.le_of_ble_eq_true rfl, Nat.le_of_ble_eq_true rfl⟩ ⟨Nat.le_of_ble_eq_true rfl, Nat.le_of_ble_eq_true rfl⟩ d_X_heaviest_70) hS (fun H locs hR hS => ?_)
  refine lv_if_eq (tgt := 98) hx hb d_X_heaviest_73 (by decide) (fun hc => ?_) (fun hc => ?_)
  · have hf := cd_t hc hf
    refine g_iinc (lv' := fun x33 => [(5, .int x33), (0, .ref (B + a0)), (1, .int a1), (2, .int a2), (3, .ref (B + a3)), (4, .int a4)]) hf hx hb d_X_heaviest_98 hl (k := 5) rfl (by decide) (by decide) (fun _ => rfl) (fun x33 ls hf hl => ?_)
    refine lv_goto (tgt := 50) hx hb d_X_heaviest_101 (by decide) ?_
    exact ih50 a0 a1 a2 a3 a4 x33 w30 _ _ _ hf (lv_sub hl [1, 2, 3, 4, 5, 0] rfl) hR hS
  have hf := cd_f hc hf
  refine lv_aload_n hx hb d_X_heaviest_76 rfl (lv_at hl 0 rfl) ?_
  have ⟨h34, hf⟩ := gd_e hf
  have ⟨x35, h36, hf⟩ := rr_e hf
  refine g_getR hx hb hts hown hK hR fl_X_40 (fun _ => rfl) h34 h36 d_X_heaviest_77 ?_
  have ⟨h40, hf⟩ := gd_e hf
  have ⟨x37, w38, h39, hf⟩ := kl_e hf
  refine g_kv0 (g_rV (As := []) (rest := []) hx hb hml hown hts hK hR hS (c_Pm_settle l D cA oc B N x35 w30 h39) I_Pm_settle m_715 m_717 (gRecv hK hR (ci := 10) rfl h40) rfl rfl (Nat.le_of_ble_eq_true rfl) hl.1 ⟨Nat.le_of_ble_eq_true rfl, Nat.le_of_ble_eq_true rfl⟩ ⟨Nat.le_of_ble_eq_true rfl, Nat.le_of_ble_eq_true rfl⟩ d_X_heaviest_80) hS (fun H locs hR hS => ?_)
  refine lv_iload hx hb d_X_heaviest_83 (lv_at hl 4 rfl) ?_
  refine lv_aload_n hx hb d_X_heaviest_85 rfl (lv_at hl 0 rfl) ?_
  have ⟨h41, hf⟩ := gd_e hf
  have ⟨x42, h43, hf⟩ := rr_e hf
  refine g_getR hx hb hts hown hK hR fl_X_30 (fun _ => rfl) h41 h43 d_X_heaviest_86 ?_
  refine lv_iload_n hx hb d_X_heaviest_89 rfl (lv_at hl 1 rfl) ?_
  have ⟨h47, hf⟩ := gd_e hf
  have ⟨x44, w45, h46, hf⟩ := kl_e hf
  refine g_ki0 (g_rV (As := [.int a1]) (rest := [.int a4]) hx hb hml hown hts hK hR hS (c_Wo_weight l D cA oc B N x42 a1 w38 h46) I_Wo_weight m_403 m_405 (gRecv hK hR (ci := 9) rfl h47) rfl rfl (Nat.le_of_ble_eq_true rfl) hl.1 ⟨Nat.le_of_ble_eq_true rfl, Nat.le_of_ble_eq_true rfl⟩ ⟨Nat.le_of_ble_eq_true rfl, Nat.le_of_ble_eq_true rfl⟩ d_X_heaviest_90) hS (fun H locs hR hS => ?_)
  refine va_mmax hx hb (hml.trans hl.1.symm) hown (hts _ m_804) (hts _ m_550) (hts _ m_18) (hts _ m_551) (Nat.le_of_ble_eq_true rfl) (Nat.le_of_ble_eq_true rfl) (Nat.zero_le _) (Nat.zero_le _) d_X_heaviest_93 ?_
  refine g_nI hf (fun x48 hf => ?_)
  refine lv_istore (lv' := [(4, .int x48), (0, .ref (B + a0)), (1, .int a1), (2, .int a2), (3, .ref (B + a3)), (5, .int a5)]) hx hb d_X_heaviest_96 hl (by decide) rfl (fun ls hl => ?_)
  refine g_iinc (lv' := fun x49 => [(5, .int x49), (4, .int x48), (0, .ref (B + a0)), (1, .int a1), (2, .int a2), (3, .ref (B + a3))]) hf hx hb d_X_heaviest_98 hl (k := 5) rfl (by decide) (by decide) (fun _ => rfl) (fun x49 ls hf hl => ?_)
  refine lv_goto (tgt := 50) hx hb d_X_heaviest_101 (by decide) ?_
  exact ih50 a0 a1 a2 a3 x48 x49 w45 _ _ _ hf (lv_sub hl [2, 3, 4, 5, 1, 0] rfl) hR hS
theorem c_X_heaviest_l50 {r : Int32} {wz : gW} (C : gC p s m args meth c "RidCoppers" b_X_heaviest 6 (some .int) D cA oc B) (a0 : Nat) (a1 : Int32) (a2 : Int32) (a3 : Nat) (a4 : Int32) (a5 : Int32) (w : gW) {ls : Array Slot} {H : Heap} {locs : List Loc} (hl : lv_has ls 6 [(0, .ref (B + a0)), (1, .int a1), (2, .int a2), (3, .ref (B + a3)), (4, .int a4), (5, .int a5)]) (hf : f_X_heaviest_l50 N a0 a1 a2 a3 a4 a5 w = some (r, wz)) (hR : gRep D cA B w H) (hS : va_S (gA B) s.heap H locs) : W p l e ({ frames := 7, cells := 0, slots := 0, locals := 193 } : Room) s m args below meth c H locs 0 0 (MQ below (gQi D cA B r wz) args s 0 0 (gA B)) (F0 m 50 ls []) := by
  unfold f_X_heaviest_l50 at hf
  suffices hh : ∀ n : Nat, ∀ (a0 : Nat) (a1 : Int32) (a2 : Int32) (a3 : Nat) (a4 : Int32) (a5 : Int32) (w : gW) (ls : Array Slot) (H : Heap) (locs : List Loc), itr (fun rec (q : Nat × Int32 × Int32 × Nat × Int32 × Int32 × gW) => f_X_heaviest_b50 N rec q.1 q.2.1 q.2.2.1 q.2.2.2.1 q.2.2.2.2.1 q.2.2.2.2.2.1 q.2.2.2.2.2.2) n (a0, a1, a2, a3, a4, a5, w) = some (r, wz) → lv_has ls 6 [(0, .ref (B + a0)), (1, .int a1), (2, .int a2), (3, .ref (B + a3)), (4, .int a4), (5, .int a5)] → gRep D cA B w H → va_S (gA B) s.heap H locs → W p l e ({ frames := 7, cells := 0, slots := 0, locals := 193 } : Room) s m args below meth c H locs 0 0 (MQ below (gQi D cA B r wz) args s 0 0 (gA B)) (F0 m 50 ls []) from hh N a0 a1 a2 a3 a4 a5 w ls H locs hf hl hR hS
  intro n
  induction n with
  | zero => intro a0 a1 a2 a3 a4 a5 w ls H locs hf; cases hf
  | succ n ihn =>
    intro a0 a1 a2 a3 a4 a5 w ls H locs hf hl hR hS
    exact c_X_heaviest_b50 (N := N) ihn C a0 a1 a2 a3 a4 a5 w hl ((itr_s _ _ _).symm.trans hf) hR hS
set_option maxRecDepth 20000 in
theorem c_X_heaviest_b0 {r : Int32} {wz : gW} (C : gC p s m args meth c "RidCoppers" b_X_heaviest 6 (some .int) D cA oc B) (a0 : Nat) (a1 : Int32) (a2 : Int32) (w : gW) {ls : Array Slot} {H : Heap} {locs : List Loc} (hl : lv_has ls 6 [(0, .ref (B + a0)), (1, .int a1), (2, .int a2)]) (hf : f_X_heaviest_b0 N a0 a1 a2 w = some (r, wz)) (hR : gRep D cA B w H) (hS : va_S (gA B) s.heap H locs) : W p l e ({ frames := 7, cells := 0, slots := 0, locals := 193 } : Room) s m args below meth c H locs 0 0 (MQ below (gQi D cA B r wz) args s 0 0 (gA B)) (F0 m 0 ls []) := by
  obtain ⟨hx, hb, hml, hown, hts, hr, hlocks, hK, hBs⟩ := id C
  unfold f_X_heaviest_b0 at hf
  refine lv_aload_n hx hb d_X_heaviest_0 rfl (lv_at hl 0 rfl) ?_
  refine lv_iload_n hx hb d_X_heaviest_1 rfl (lv_at hl 1 rfl) ?_
  have ⟨h4, hf⟩ := gd_e hf
  have ⟨x1, w2, h3, hf⟩ := kl_e hf
  refine g_kr0 (g_rV (As := [.int a1]) (rest := []) hx hb hml hown hts hK hR hS (c_X_payerAt l D cA oc B N a0 a1 w h3) I_X_payerAt m_374 mp_0 (gRecv hK hR (ci := 11) rfl h4) rfl rfl (Nat.le_of_ble_eq_true rfl) hl.1 ⟨Nat.le_of_ble_eq_true rfl, Nat.le_of_ble_eq_true rfl⟩ ⟨Nat.le_of_ble_eq_true rfl, Nat.le_of_ble_eq_true rfl⟩ d_X_heaviest_2) hS (fun H locs hR hS => ?_)
  rcases x1 with _ | x5
  · have hf := nr_n hf
    refine lv_astore_nN (lv' := [(3, .null), (0, .ref (B + a0)), (1, .int a1), (2, .int a2)]) hx hb d_X_heaviest_5 rfl hl (by decide) rfl (fun ls hl => ?_)
    refine lv_aload_nN hx hb d_X_heaviest_6 rfl (lv_at hl 0 rfl) ?_
    refine lv_ifnonnullN hx hb d_X_heaviest_7 ?_
    refine lv_iconst (v := (-1)) hx hb d_X_heaviest_10 (by decide) ?_
    exact g_iret hx hb hr hlocks hR hS hf rfl d_X_heaviest_11
  have hf := nr_s hf
  refine lv_astore_n (lv' := [(3, .ref (B + x5)), (0, .ref (B + a0)), (1, .int a1), (2, .int a2)]) hx hb d_X_heaviest_5 rfl hl (by decide) rfl (fun ls hl => ?_)
  refine lv_aload_n hx hb d_X_heaviest_6 rfl (lv_at hl 0 rfl) ?_
  refine lv_ifnonnull (tgt := 12) hx hb d_X_heaviest_7 (by decide) ?_
  refine lv_iload_n hx hb d_X_heaviest_12 rfl (lv_at hl 3 rfl) ?_
  refine lv_iconst (v := 1) hx hb d_X_heaviest_13 (by decide) ?_
  refine lv_icmp_lt (tgt := 23) hx hb d_X_heaviest_14 (by decide) (fun hc => ?_) (fun hc => ?_)
  · have hf := cd_t hc hf
    refine lv_bipush (v := (-2)) hx hb d_X_heaviest_23 (by decide) ?_
    exact g_iret hx hb hr hlocks hR hS hf rfl d_X_heaviest_25
  have hf := cd_f hc hf
  refine lv_iload_n hx hb d_X_heaviest_17 rfl (lv_at hl 3 rfl) ?_
  refine lv_bipush (v := 8) hx hb d_X_heaviest_18 (by decide) ?_
  refine lv_icmp_le (tgt := 26) hx hb d_X_heaviest_20 (by decide) (fun hc => ?_) (fun hc => ?_)
  · have hf := cd_t hc hf
    refine lv_aload_n hx hb d_X_heaviest_26 rfl (lv_at hl 1 rfl) ?_
    have ⟨h7, hf⟩ := gd_e hf
    have ⟨x8, h9, hf⟩ := rr_e hf
    refine g_getR hx hb hts hown hK hR fl_X_30 (fun _ => rfl) h7 h9 d_X_heaviest_27 ?_
    refine lv_aload_n hx hb d_X_heaviest_30 rfl (lv_at hl 1 rfl) ?_
    have ⟨x10, h11, hf⟩ := rr_e hf
    refine g_getR hx hb hts hown hK hR fl_X_23 (fun _ => rfl) h7 h11 d_X_heaviest_31 ?_
    have ⟨h15, hf⟩ := gd_e hf
    have ⟨x12, w13, h14, hf⟩ := kl_e hf
    refine g_kv0 (g_rV (As := [.ref (B + x10)]) (rest := []) hx hb hml hown hts hK hR hS (c_Wo_become l D cA oc B N x8 x10 w2 h14) I_Wo_become m_766 m_768 (gRecv hK hR (ci := 9) rfl h15) rfl rfl (Nat.le_of_ble_eq_true rfl) hl.1 ⟨Nat.le_of_ble_eq_true rfl, Nat.le_of_ble_eq_true rfl⟩ ⟨Nat.le_of_ble_eq_true rfl, Nat.le_of_ble_eq_true rfl⟩ d_X_heaviest_34) hS (fun H locs hR hS => ?_)
    refine lv_aload_n hx hb d_X_heaviest_37 rfl (lv_at hl 1 rfl) ?_
    have ⟨h16, hf⟩ := gd_e hf
    have ⟨x17, h18, hf⟩ := rr_e hf
    refine g_getR hx hb hts hown hK hR fl_X_30 (fun _ => rfl) h16 h18 d_X_heaviest_38 ?_
    refine lv_iload_n hx hb d_X_heaviest_41 rfl (lv_at hl 2 rfl) ?_
    have ⟨h22, hf⟩ := gd_e hf
    have ⟨x19, w20, h21, hf⟩ := kl_e hf
    refine g_ki0 (g_rV (As := [.int a1]) (rest := []) hx hb hml hown hts hK hR hS (c_Wo_weight l D cA oc B N x17 a1 w13 h21) I_Wo_weight m_403 m_405 (gRecv hK hR (ci := 9) rfl h22) rfl rfl (Nat.le_of_ble_eq_true rfl) hl.1 ⟨Nat.le_of_ble_eq_true rfl, Nat.le_of_ble_eq_true rfl⟩ ⟨Nat.le_of_ble_eq_true rfl, Nat.le_of_ble_eq_true rfl⟩ d_X_heaviest_42) hS (fun H locs hR hS => ?_)
    refine lv_istore (lv' := [(4, .int x19), (3, .ref (B + x5)), (0, .ref (B + a0)), (1, .int a1), (2, .int a2)]) hx hb d_X_heaviest_45 hl (by decide) rfl (fun ls hl => ?_)
    refine lv_iconst (v := 1) hx hb d_X_heaviest_47 (by decide) ?_
    refine lv_istore (lv' := [(5, .int 1), (4, .int x19), (3, .ref (B + x5)), (0, .ref (B + a0)), (1, .int a1), (2, .int a2)]) hx hb d_X_heaviest_48 hl (by decide) rfl (fun ls hl => ?_)
    exact c_X_heaviest_l50 C a0 a1 a2 x5 x19 1 w20 (lv_sub hl [3, 4, 5, 2, 1, 0] rfl) hf hR hS
  have hf := cd_f hc hf
  refine lv_bipush (v := (-2)) hx hb d_X_heaviest_23 (by decide) ?_
  exact g_iret hx hb hr hlocks hR hS hf rfl d_X_heaviest_25
theorem c_X_heaviest (l : Launch) (D : va_G) (cA : Nat → ClassId) (oc : gO) (B N : Nat) (a0 : Nat) (a1 : Int32) (a2 : Int32) (w : gW) {wz : gW} {r : Int32} (hf : f_X_heaviest N a0 a1 a2 w = some (r, wz)) : Met l y_X_heaviest (Cond.code y_X_heaviest b_X_heaviest 6 (some .int) :: lw_good) ({ frames := 7, cells := 0, slots := 0, locals := 193 } : Room) (gPre D cA oc B [.ref (B + a0), .int a1, .int a2] w) (gQi D cA B r wz) 0 0 (gA B) := by
  refine Met.ofW (cc := b_X_heaviest) (maxL := 6) (ret := (some .int)) (by decide +kernel) rfl ?_
  intro p e s m args below meth c s₁ Bd hml hv
  obtain ⟨hargs, C, hR⟩ := gC.enter (l := l) rfl Bd hml hv
  subst hargs
  have hl := lv_entry ([.ref (B + a0), .int a1, .int a2]) (n := 6) (Nat.le_of_ble_eq_true rfl)
  rw [lg_entry_eq]
  generalize (lg_sl ([.ref (B + a0), .int a1, .int a2]) ++ List.replicate (6 - (lg_sl ([.ref (B + a0), .int a1, .int a2])).length) Slot.unset).toArray = ls at hl ⊢
  have hl : lv_has ls 6 [(0, .ref (B + a0)), (1, .int a1), (2, .int a2)] := hl
  exact c_X_heaviest_b0 C a0 a1 a2 w (lv_sub hl [0, 1, 2] rfl) hf hR va_S.rf
theorem d_X_see_0 : decode b_X_see 0 = .ok (.iload_n 1, 1) := by decide +kernel
theorem d_X_see_1 : decode b_X_see 1 = .ok (.iconst (-1), 1) := by decide +kernel
theorem d_X_see_2 : decode b_X_see 2 = .ok (.if_icmp .ne 13, 3) := by decide +kernel
theorem d_X_see_5 : decode b_X_see 5 = .ok (.aload_n 0, 1) := by decide +kernel
theorem d_X_see_6 : decode b_X_see 6 = .ok (.getfield 23, 3) := by decide +kernel
theorem d_X_see_9 : decode b_X_see 9 = .ok (.iconst 0, 1) := by decide +kernel
theorem d_X_see_10 : decode b_X_see 10 = .ok (.putfield 214, 3) := by decide +kernel
theorem d_X_see_13 : decode b_X_see 13 = .ok (.iconst 0, 1) := by decide +kernel
theorem d_X_see_14 : decode b_X_see 14 = .ok (.ireturn, 1) := by decide +kernel
theorem d_X_see_15 : decode b_X_see 15 = .ok (.iload_n 1, 1) := by decide +kernel
theorem d_X_see_16 : decode b_X_see 16 = .ok (.invokestatic 146, 3) := by decide +kernel
theorem d_X_see_19 : decode b_X_see 19 = .ok (.ifCond .eq 13, 3) := by decide +kernel
theorem d_X_see_22 : decode b_X_see 22 = .ok (.iload_n 2, 1) := by decide +kernel
theorem d_X_see_23 : decode b_X_see 23 = .ok (.ifCond .lt 9, 3) := by decide +kernel
theorem d_X_see_26 : decode b_X_see 26 = .ok (.iload_n 2, 1) := by decide +kernel
theorem d_X_see_27 : decode b_X_see 27 = .ok (.bipush 99, 2) := by decide +kernel
theorem d_X_see_29 : decode b_X_see 29 = .ok (.if_icmp .le 6, 3) := by decide +kernel
theorem d_X_see_32 : decode b_X_see 32 = .ok (.bipush (-2), 2) := by decide +kernel
theorem d_X_see_34 : decode b_X_see 34 = .ok (.ireturn, 1) := by decide +kernel
theorem d_X_see_35 : decode b_X_see 35 = .ok (.aload_n 0, 1) := by decide +kernel
theorem d_X_see_36 : decode b_X_see 36 = .ok (.getfield 23, 3) := by decide +kernel
theorem d_X_see_39 : decode b_X_see 39 = .ok (.getfield 214, 3) := by decide +kernel
theorem d_X_see_42 : decode b_X_see 42 = .ok (.iconst 4, 1) := by decide +kernel
theorem d_X_see_43 : decode b_X_see 43 = .ok (.if_icmp .lt 6, 3) := by decide +kernel
theorem d_X_see_46 : decode b_X_see 46 = .ok (.bipush (-4), 2) := by decide +kernel
theorem d_X_see_48 : decode b_X_see 48 = .ok (.ireturn, 1) := by decide +kernel
theorem d_X_see_49 : decode b_X_see 49 = .ok (.aload_n 0, 1) := by decide +kernel
theorem d_X_see_50 : decode b_X_see 50 = .ok (.getfield 23, 3) := by decide +kernel
theorem d_X_see_53 : decode b_X_see 53 = .ok (.getfield 217, 3) := by decide +kernel
theorem d_X_see_56 : decode b_X_see 56 = .ok (.aload_n 0, 1) := by decide +kernel
theorem d_X_see_57 : decode b_X_see 57 = .ok (.getfield 23, 3) := by decide +kernel
theorem d_X_see_60 : decode b_X_see 60 = .ok (.getfield 214, 3) := by decide +kernel
theorem d_X_see_63 : decode b_X_see 63 = .ok (.iload_n 1, 1) := by decide +kernel
theorem d_X_see_64 : decode b_X_see 64 = .ok (.iastore, 1) := by decide +kernel
theorem d_X_see_65 : decode b_X_see 65 = .ok (.aload_n 0, 1) := by decide +kernel
theorem d_X_see_66 : decode b_X_see 66 = .ok (.getfield 23, 3) := by decide +kernel
theorem d_X_see_69 : decode b_X_see 69 = .ok (.getfield 220, 3) := by decide +kernel
theorem d_X_see_72 : decode b_X_see 72 = .ok (.aload_n 0, 1) := by decide +kernel
theorem d_X_see_73 : decode b_X_see 73 = .ok (.getfield 23, 3) := by decide +kernel
theorem d_X_see_76 : decode b_X_see 76 = .ok (.getfield 214, 3) := by decide +kernel
theorem d_X_see_79 : decode b_X_see 79 = .ok (.iload_n 2, 1) := by decide +kernel
theorem d_X_see_80 : decode b_X_see 80 = .ok (.iastore, 1) := by decide +kernel
theorem d_X_see_81 : decode b_X_see 81 = .ok (.aload_n 0, 1) := by decide +kernel
theorem d_X_see_82 : decode b_X_see 82 = .ok (.getfield 23, 3) := by decide +kernel
theorem d_X_see_85 : decode b_X_see 85 = .ok (.dup, 1) := by decide +kernel
theorem d_X_see_86 : decode b_X_see 86 = .ok (.getfield 214, 3) := by decide +kernel
theorem d_X_see_89 : decode b_X_see 89 = .ok (.iconst 1, 1) := by decide +kernel
theorem d_X_see_90 : decode b_X_see 90 = .ok (.iadd, 1) := by decide +kernel
theorem d_X_see_91 : decode b_X_see 91 = .ok (.putfield 214, 3) := by decide +kernel
theorem d_X_see_94 : decode b_X_see 94 = .ok (.aload_n 0, 1) := by decide +kernel
theorem d_X_see_95 : decode b_X_see 95 = .ok (.getfield 23, 3) := by decide +kernel
theorem d_X_see_98 : decode b_X_see 98 = .ok (.getfield 214, 3) := by decide +kernel
theorem d_X_see_101 : decode b_X_see 101 = .ok (.ireturn, 1) := by decide +kernel
set_option maxRecDepth 20000 in
theorem c_X_see_b0 {r : Int32} {wz : gW} (C : gC p s m args meth c "RidCoppers" b_X_see 3 (some .int) D cA oc B) (a0 : Nat) (a1 : Int32) (a2 : Int32) (w : gW) {ls : Array Slot} {H : Heap} {locs : List Loc} (hl : lv_has ls 3 [(0, .ref (B + a0)), (1, .int a1), (2, .int a2)]) (hf : f_X_see_b0 N a0 a1 a2 w = some (r, wz)) (hR : gRep D cA B w H) (hS : va_S (gA B) s.heap H locs) : W p l e ({ frames := 2, cells := 0, slots := 0, locals := 60 } : Room) s m args below meth c H locs 0 0 (MQ below (gQi D cA B r wz) args s 0 0 (gA B)) (F0 m 0 ls []) := by
  obtain ⟨hx, hb, hml, hown, hts, hr, hlocks, hK, hBs⟩ := id C
  unfold f_X_see_b0 at hf
  refine lv_iload_n hx hb d_X_see_0 rfl (lv_at hl 1 rfl) ?_
  refine lv_iconst (v := (-1)) hx hb d_X_see_1 (by decide) ?_
  refine lv_icmp_ne (tgt := 15) hx hb d_X_see_2 (by decide) (fun hc => ?_) (fun hc => ?_)
  · have hf := cd_f hc hf
    refine lv_iload_n hx hb d_X_see_15 rfl (lv_at hl 1 rfl) ?_
    have ⟨x1, w2, h3, hf⟩ := kl_e hf
    refine g_ki0 (g_rS (As := [.int a1]) (rest := []) hx hb hml hown hts hK hR hS (c_X_isPrice l D cA oc B N a1 w h3) I_X_isPrice m_615 rfl rfl (Nat.le_of_ble_eq_true rfl) hl.1 ⟨Nat.le_of_ble_eq_true rfl, Nat.le_of_ble_eq_true rfl⟩ ⟨Nat.le_of_ble_eq_true rfl, Nat.le_of_ble_eq_true rfl⟩ d_X_see_16) hS (fun H locs hR hS => ?_)
    refine lv_if_eq (tgt := 32) hx hb d_X_see_19 (by decide) (fun hc => ?_) (fun hc => ?_)
    · have hf := cd_t hc hf
      refine lv_bipush (v := (-2)) hx hb d_X_see_32 (by decide) ?_
      exact g_iret hx hb hr hlocks hR hS hf rfl d_X_see_34
    have hf := cd_f hc hf
    refine lv_iload_n hx hb d_X_see_22 rfl (lv_at hl 2 rfl) ?_
    refine lv_if_lt (tgt := 32) hx hb d_X_see_23 (by decide) (fun hc => ?_) (fun hc => ?_)
    · have hf := cd_t hc hf
      refine lv_bipush (v := (-2)) hx hb d_X_see_32 (by decide) ?_
      exact g_iret hx hb hr hlocks hR hS hf rfl d_X_see_34
    have hf := cd_f hc hf
    refine lv_iload_n hx hb d_X_see_26 rfl (lv_at hl 2 rfl) ?_
    refine lv_bipush (v := 99) hx hb d_X_see_27 (by decide) ?_
    refine lv_icmp_le (tgt := 35) hx hb d_X_see_29 (by decide) (fun hc => ?_) (fun hc => ?_)
    · have hf := cd_t hc hf
      refine lv_aload_n hx hb d_X_see_35 rfl (lv_at hl 0 rfl) ?_
      have ⟨h4, hf⟩ := gd_e hf
      have ⟨x5, h6, hf⟩ := rr_e hf
      refine g_getR hx hb hts hown hK hR fl_X_23 (fun _ => rfl) h4 h6 d_X_see_36 ?_
      have ⟨h7, hf⟩ := gd_e hf
      refine g_getI hx hb hts hown hK hR fl_X_214 (fun _ => rfl) h7 d_X_see_39 ?_
      refine g_nI hf (fun x8 hf => ?_)
      refine lv_iconst (v := 4) hx hb d_X_see_42 (by decide) ?_
      refine lv_icmp_lt (tgt := 49) hx hb d_X_see_43 (by decide) (fun hc => ?_) (fun hc => ?_)
      · have hf := cd_t hc hf
        refine lv_aload_n hx hb d_X_see_49 rfl (lv_at hl 0 rfl) ?_
        refine g_getR hx hb hts hown hK hR fl_X_23 (fun _ => rfl) h4 h6 d_X_see_50 ?_
        have ⟨x9, h10, hf⟩ := rr_e hf
        refine g_getR hx hb hts hown hK hR fl_X_217 (fun _ => rfl) h7 h10 d_X_see_53 ?_
        refine lv_aload_n hx hb d_X_see_56 rfl (lv_at hl 0 rfl) ?_
        refine g_getR hx hb hts hown hK hR fl_X_23 (fun _ => rfl) h4 h6 d_X_see_57 ?_
        refine g_getI hx hb hts hown hK hR fl_X_214 (fun _ => rfl) h7 d_X_see_60 ?_
        refine g_nI hf (fun x11 hf => ?_)
        refine lv_iload_n hx hb d_X_see_63 rfl (lv_at hl 1 rfl) ?_
        have ⟨h12, hf⟩ := gd_e hf
        have ⟨h13, hf⟩ := gd_e hf
        refine g_iast hx hb hK hR hS h12 h13 d_X_see_64 (fun H locs hR hS => ?_)
        refine g_nW hf hR (fun w14 hf hR => ?_)
        refine lv_aload_n hx hb d_X_see_65 rfl (lv_at hl 0 rfl) ?_
        have ⟨h15, hf⟩ := gd_e hf
        have ⟨x16, h17, hf⟩ := rr_e hf
        refine g_getR hx hb hts hown hK hR fl_X_23 (fun _ => rfl) h15 h17 d_X_see_66 ?_
        have ⟨h18, hf⟩ := gd_e hf
        have ⟨x19, h20, hf⟩ := rr_e hf
        refine g_getR hx hb hts hown hK hR fl_X_220 (fun _ => rfl) h18 h20 d_X_see_69 ?_
        refine lv_aload_n hx hb d_X_see_72 rfl (lv_at hl 0 rfl) ?_
        refine g_getR hx hb hts hown hK hR fl_X_23 (fun _ => rfl) h15 h17 d_X_see_73 ?_
        refine g_getI hx hb hts hown hK hR fl_X_214 (fun _ => rfl) h18 d_X_see_76 ?_
        refine g_nI hf (fun x21 hf => ?_)
        refine lv_iload_n hx hb d_X_see_79 rfl (lv_at hl 2 rfl) ?_
        have ⟨h22, hf⟩ := gd_e hf
        have ⟨h23, hf⟩ := gd_e hf
        refine g_iast hx hb hK hR hS h22 h23 d_X_see_80 (fun H locs hR hS => ?_)
        refine g_nW hf hR (fun w24 hf hR => ?_)
        refine lv_aload_n hx hb d_X_see_81 rfl (lv_at hl 0 rfl) ?_
        have ⟨h25, hf⟩ := gd_e hf
        have ⟨x26, h27, hf⟩ := rr_e hf
        refine g_getR hx hb hts hown hK hR fl_X_23 (fun _ => rfl) h25 h27 d_X_see_82 ?_
        refine lv_dup hx hb d_X_see_85 rfl ?_
        have ⟨h28, hf⟩ := gd_e hf
        refine g_getI hx hb hts hown hK hR fl_X_214 (fun _ => rfl) h28 d_X_see_86 ?_
        refine g_nI hf (fun x29 hf => ?_)
        refine lv_iconst (v := 1) hx hb d_X_see_89 (by decide) ?_
        refine lv_iadd hx hb d_X_see_90 ?_
        refine g_nI hf (fun x30 hf => ?_)
        refine g_putI hx hb hts hown hK hR hS pf_X_214 (fun _ => rfl) rfl rfl h28 d_X_see_91 (fun H locs hR hS => ?_)
        refine g_nW hf hR (fun w31 hf hR => ?_)
        refine lv_aload_n hx hb d_X_see_94 rfl (lv_at hl 0 rfl) ?_
        have ⟨h32, hf⟩ := gd_e hf
        have ⟨x33, h34, hf⟩ := rr_e hf
        refine g_getR hx hb hts hown hK hR fl_X_23 (fun _ => rfl) h32 h34 d_X_see_95 ?_
        have ⟨h35, hf⟩ := gd_e hf
        refine g_getI hx hb hts hown hK hR fl_X_214 (fun _ => rfl) h35 d_X_see_98 ?_
        refine g_nI hf (fun x36 hf => ?_)
        exact g_iret hx hb hr hlocks hR hS hf rfl d_X_see_101
      have hf := cd_f hc hf
      refine lv_bipush (v := (-4)) hx hb d_X_see_46 (by decide) ?_
      exact g_iret hx hb hr hlocks hR hS hf rfl d_X_see_48
    have hf := cd_f hc hf
    refine lv_bipush (v := (-2)) hx hb d_X_see_32 (by decide) ?_
    exact g_iret hx hb hr hlocks hR hS hf rfl d_X_see_34
  have hf := cd_t hc hf
  refine lv_aload_n hx hb d_X_see_5 rfl (lv_at hl 0 rfl) ?_
  have ⟨h37, hf⟩ := gd_e hf
  have ⟨x38, h39, hf⟩ := rr_e hf
  refine g_getR hx hb hts hown hK hR fl_X_23 (fun _ => rfl) h37 h39 d_X_see_6 ?_
  refine lv_iconst (v := 0) hx hb d_X_see_9 (by decide) ?_
  have ⟨h40, hf⟩ := gd_e hf
  refine g_putI hx hb hts hown hK hR hS pf_X_214 (fun _ => rfl) rfl rfl h40 d_X_see_10 (fun H locs hR hS => ?_)
  refine g_nW hf hR (fun w41 hf hR => ?_)
  refine lv_iconst (v := 0) hx hb d_X_see_13 (by decide) ?_
  exact g_iret hx hb hr hlocks hR hS hf rfl d_X_see_14
theorem c_X_see (l : Launch) (D : va_G) (cA : Nat → ClassId) (oc : gO) (B N : Nat) (a0 : Nat) (a1 : Int32) (a2 : Int32) (w : gW) {wz : gW} {r : Int32} (hf : f_X_see N a0 a1 a2 w = some (r, wz)) : Met l y_X_see (Cond.code y_X_see b_X_see 3 (some .int) :: lw_good) ({ frames := 2, cells := 0, slots := 0, locals := 60 } : Room) (gPre D cA oc B [.ref (B + a0), .int a1, .int a2] w) (gQi D cA B r wz) 0 0 (gA B) := by
  refine Met.ofW (cc := b_X_see) (maxL := 3) (ret := (some .int)) (by decide +kernel) rfl ?_
  intro p e s m args below meth c s₁ Bd hml hv
  obtain ⟨hargs, C, hR⟩ := gC.enter (l := l) rfl Bd hml hv
  subst hargs
  have hl := lv_entry ([.ref (B + a0), .int a1, .int a2]) (n := 3) (Nat.le_of_ble_eq_true rfl)
  rw [lg_entry_eq]
  generalize (lg_sl ([.ref (B + a0), .int a1, .int a2]) ++ List.replicate (3 - (lg_sl ([.ref (B + a0), .int a1, .int a2])).length) Slot.unset).toArray = ls at hl ⊢
  have hl : lv_has ls 3 [(0, .ref (B + a0)), (1, .int a1), (2, .int a2)] := hl
  exact c_X_see_b0 C a0 a1 a2 w (lv_sub hl [0, 1, 2] rfl) hf hR va_S.rf
theorem d_X_fitsAllSeen_0 : decode b_X_fitsAllSeen 0 = .ok (.iconst 0, 1) := by decide +kernel
theorem d_X_fitsAllSeen_1 : decode b_X_fitsAllSeen 1 = .ok (.istore_n 2, 1) := by decide +kernel
theorem d_X_fitsAllSeen_2 : decode b_X_fitsAllSeen 2 = .ok (.iload_n 2, 1) := by decide +kernel
theorem d_X_fitsAllSeen_3 : decode b_X_fitsAllSeen 3 = .ok (.aload_n 0, 1) := by decide +kernel
theorem d_X_fitsAllSeen_4 : decode b_X_fitsAllSeen 4 = .ok (.getfield 23, 3) := by decide +kernel
theorem d_X_fitsAllSeen_7 : decode b_X_fitsAllSeen 7 = .ok (.getfield 214, 3) := by decide +kernel
theorem d_X_fitsAllSeen_10 : decode b_X_fitsAllSeen 10 = .ok (.if_icmp .ge 54, 3) := by decide +kernel
theorem d_X_fitsAllSeen_13 : decode b_X_fitsAllSeen 13 = .ok (.aload_n 0, 1) := by decide +kernel
theorem d_X_fitsAllSeen_14 : decode b_X_fitsAllSeen 14 = .ok (.getfield 40, 3) := by decide +kernel
theorem d_X_fitsAllSeen_17 : decode b_X_fitsAllSeen 17 = .ok (.aload_n 0, 1) := by decide +kernel
theorem d_X_fitsAllSeen_18 : decode b_X_fitsAllSeen 18 = .ok (.getfield 23, 3) := by decide +kernel
theorem d_X_fitsAllSeen_21 : decode b_X_fitsAllSeen 21 = .ok (.aload_n 1, 1) := by decide +kernel
theorem d_X_fitsAllSeen_22 : decode b_X_fitsAllSeen 22 = .ok (.aload_n 0, 1) := by decide +kernel
theorem d_X_fitsAllSeen_23 : decode b_X_fitsAllSeen 23 = .ok (.getfield 23, 3) := by decide +kernel
theorem d_X_fitsAllSeen_26 : decode b_X_fitsAllSeen 26 = .ok (.getfield 217, 3) := by decide +kernel
theorem d_X_fitsAllSeen_29 : decode b_X_fitsAllSeen 29 = .ok (.iload_n 2, 1) := by decide +kernel
theorem d_X_fitsAllSeen_30 : decode b_X_fitsAllSeen 30 = .ok (.iaload, 1) := by decide +kernel
theorem d_X_fitsAllSeen_31 : decode b_X_fitsAllSeen 31 = .ok (.invokevirtual 149, 3) := by decide +kernel
theorem d_X_fitsAllSeen_34 : decode b_X_fitsAllSeen 34 = .ok (.ifCond .eq 22, 3) := by decide +kernel
theorem d_X_fitsAllSeen_37 : decode b_X_fitsAllSeen 37 = .ok (.aload_n 0, 1) := by decide +kernel
theorem d_X_fitsAllSeen_38 : decode b_X_fitsAllSeen 38 = .ok (.getfield 40, 3) := by decide +kernel
theorem d_X_fitsAllSeen_41 : decode b_X_fitsAllSeen 41 = .ok (.invokevirtual 167, 3) := by decide +kernel
theorem d_X_fitsAllSeen_44 : decode b_X_fitsAllSeen 44 = .ok (.aload_n 0, 1) := by decide +kernel
theorem d_X_fitsAllSeen_45 : decode b_X_fitsAllSeen 45 = .ok (.getfield 23, 3) := by decide +kernel
theorem d_X_fitsAllSeen_48 : decode b_X_fitsAllSeen 48 = .ok (.getfield 220, 3) := by decide +kernel
theorem d_X_fitsAllSeen_51 : decode b_X_fitsAllSeen 51 = .ok (.iload_n 2, 1) := by decide +kernel
theorem d_X_fitsAllSeen_52 : decode b_X_fitsAllSeen 52 = .ok (.iaload, 1) := by decide +kernel
theorem d_X_fitsAllSeen_53 : decode b_X_fitsAllSeen 53 = .ok (.if_icmp .eq 5, 3) := by decide +kernel
theorem d_X_fitsAllSeen_56 : decode b_X_fitsAllSeen 56 = .ok (.iconst 0, 1) := by decide +kernel
theorem d_X_fitsAllSeen_57 : decode b_X_fitsAllSeen 57 = .ok (.ireturn, 1) := by decide +kernel
theorem d_X_fitsAllSeen_58 : decode b_X_fitsAllSeen 58 = .ok (.iinc 2 1, 3) := by decide +kernel
theorem d_X_fitsAllSeen_61 : decode b_X_fitsAllSeen 61 = .ok (.goto (-59), 3) := by decide +kernel
theorem d_X_fitsAllSeen_64 : decode b_X_fitsAllSeen 64 = .ok (.iconst 1, 1) := by decide +kernel
theorem d_X_fitsAllSeen_65 : decode b_X_fitsAllSeen 65 = .ok (.ireturn, 1) := by decide +kernel
set_option maxRecDepth 20000 in
theorem c_X_fitsAllSeen_b2 {r : Int32} {wz : gW} {rec2 : Nat × Nat × Int32 × gW → Option (Int32 × gW)} (ih2 : ∀ (a0 : Nat) (a1 : Nat) (a2 : Int32) (w : gW) (ls : Array Slot) (H : Heap) (locs : List Loc), rec2 (a0, a1, a2, w) = some (r, wz) → lv_has ls 3 [(0, .ref (B + a0)), (1, .ref (B + a1)), (2, .int a2)] → gRep D cA B w H → va_S (gA B) s.heap H locs → W p l e ({ frames := 7, cells := 0, slots := 0, locals := 193 } : Room) s m args below meth c H locs 0 0 (MQ below (gQi D cA B r wz) args s 0 0 (gA B)) (F0 m 2 ls [])) (C : gC p s m args meth c "RidCoppers" b_X_fitsAllSeen 3 (some .boolean) D cA oc B) (a0 : Nat) (a1 : Nat) (a2 : Int32) (w : gW) {ls : Array Slot} {H : Heap} {locs : List Loc} (hl : lv_has ls 3 [(0, .ref (B + a0)), (1, .ref (B + a1)), (2, .int a2)]) (hf : f_X_fitsAllSeen_b2 N rec2 a0 a1 a2 w = some (r, wz)) (hR : gRep D cA B w H) (hS : va_S (gA B) s.heap H locs) : W p l e ({ frames := 7, cells := 0, slots := 0, locals := 193 } : Room) s m args below meth c H locs 0 0 (MQ below (gQi D cA B r wz) args s 0 0 (gA B)) (F0 m 2 ls []) := by
  obtain ⟨hx, hb, hml, hown, hts, hr, hlocks, hK, hBs⟩ := id C
  unfold f_X_fitsAllSeen_b2 at hf
  refine lv_iload_n hx hb d_X_fitsAllSeen_2 rfl (lv_at hl 2 rfl) ?_
  refine lv_aload_n hx hb d_X_fitsAllSeen_3 rfl (lv_at hl 0 rfl) ?_
  have ⟨h1, hf⟩ := gd_e hf
  have ⟨x2, h3, hf⟩ := rr_e hf
  refine g_getR hx hb hts hown hK hR fl_X_23 (fun _ => rfl) h1 h3 d_X_fitsAllSeen_4 ?_
  have ⟨h4, hf⟩ := gd_e hf
  refine g_getI hx hb hts hown hK hR fl_X_214 (fun _ => rfl) h4 d_X_fitsAllSeen_7 ?_
  refine g_nI hf (fun x5 hf => ?_)
  refine lv_icmp_ge (tgt := 64) hx hb d_X_fitsAllSeen_10 (by decide) (fun hc => ?_) (fun hc => ?_)
  · have hf := cd_t hc hf
    refine lv_iconst (v := 1) hx hb d_X_fitsAllSeen_64 (by decide) ?_
    exact g_iret hx hb hr hlocks hR hS hf rfl d_X_fitsAllSeen_65
  have hf := cd_f hc hf
  refine lv_aload_n hx hb d_X_fitsAllSeen_13 rfl (lv_at hl 0 rfl) ?_
  have ⟨x6, h7, hf⟩ := rr_e hf
  refine g_getR hx hb hts hown hK hR fl_X_40 (fun _ => rfl) h1 h7 d_X_fitsAllSeen_14 ?_
  refine lv_aload_n hx hb d_X_fitsAllSeen_17 rfl (lv_at hl 0 rfl) ?_
  refine g_getR hx hb hts hown hK hR fl_X_23 (fun _ => rfl) h1 h3 d_X_fitsAllSeen_18 ?_
  refine lv_aload_n hx hb d_X_fitsAllSeen_21 rfl (lv_at hl 1 rfl) ?_
  refine lv_aload_n hx hb d_X_fitsAllSeen_22 rfl (lv_at hl 0 rfl) ?_
  refine g_getR hx hb hts hown hK hR fl_X_23 (fun _ => rfl) h1 h3 d_X_fitsAllSeen_23 ?_
  have ⟨x8, h9, hf⟩ := rr_e hf
  refine g_getR hx hb hts hown hK hR fl_X_217 (fun _ => rfl) h4 h9 d_X_fitsAllSeen_26 ?_
  refine lv_iload_n hx hb d_X_fitsAllSeen_29 rfl (lv_at hl 2 rfl) ?_
  have ⟨h10, hf⟩ := gd_e hf
  have ⟨h11, hf⟩ := gd_e hf
  refine g_iald hx hb hK hR h10 h11 d_X_fitsAllSeen_30 ?_
  refine g_nI hf (fun x12 hf => ?_)
  have ⟨h16, hf⟩ := gd_e hf
  have ⟨x13, w14, h15, hf⟩ := kl_e hf
  refine g_ki0 (g_rV (As := [.ref (B + x2), .ref (B + a1), .int x12]) (rest := []) hx hb hml hown hts hK hR hS (c_Pm_choose l D cA oc B N x6 x2 a1 x12 w h15) I_Pm_choose m_618 m_620 (gRecv hK hR (ci := 10) rfl h16) rfl rfl (Nat.le_of_ble_eq_true rfl) hl.1 ⟨Nat.le_of_ble_eq_true rfl, Nat.le_of_ble_eq_true rfl⟩ ⟨Nat.le_of_ble_eq_true rfl, Nat.le_of_ble_eq_true rfl⟩ d_X_fitsAllSeen_31) hS (fun H locs hR hS => ?_)
  refine lv_if_eq (tgt := 56) hx hb d_X_fitsAllSeen_34 (by decide) (fun hc => ?_) (fun hc => ?_)
  · have hf := cd_t hc hf
    refine lv_iconst (v := 0) hx hb d_X_fitsAllSeen_56 (by decide) ?_
    exact g_iret hx hb hr hlocks hR hS hf rfl d_X_fitsAllSeen_57
  have hf := cd_f hc hf
  refine lv_aload_n hx hb d_X_fitsAllSeen_37 rfl (lv_at hl 0 rfl) ?_
  have ⟨h17, hf⟩ := gd_e hf
  have ⟨x18, h19, hf⟩ := rr_e hf
  refine g_getR hx hb hts hown hK hR fl_X_40 (fun _ => rfl) h17 h19 d_X_fitsAllSeen_38 ?_
  have ⟨h23, hf⟩ := gd_e hf
  have ⟨x20, w21, h22, hf⟩ := kl_e hf
  refine g_ki0 (g_rV (As := []) (rest := []) hx hb hml hown hts hK hR hS (c_Pm_coinsBehind l D cA oc B N x18 w14 h22) I_Pm_coinsBehind m_723 m_725 (gRecv hK hR (ci := 10) rfl h23) rfl rfl (Nat.le_of_ble_eq_true rfl) hl.1 ⟨Nat.le_of_ble_eq_true rfl, Nat.le_of_ble_eq_true rfl⟩ ⟨Nat.le_of_ble_eq_true rfl, Nat.le_of_ble_eq_true rfl⟩ d_X_fitsAllSeen_41) hS (fun H locs hR hS => ?_)
  refine lv_aload_n hx hb d_X_fitsAllSeen_44 rfl (lv_at hl 0 rfl) ?_
  have ⟨h24, hf⟩ := gd_e hf
  have ⟨x25, h26, hf⟩ := rr_e hf
  refine g_getR hx hb hts hown hK hR fl_X_23 (fun _ => rfl) h24 h26 d_X_fitsAllSeen_45 ?_
  have ⟨h27, hf⟩ := gd_e hf
  have ⟨x28, h29, hf⟩ := rr_e hf
  refine g_getR hx hb hts hown hK hR fl_X_220 (fun _ => rfl) h27 h29 d_X_fitsAllSeen_48 ?_
  refine lv_iload_n hx hb d_X_fitsAllSeen_51 rfl (lv_at hl 2 rfl) ?_
  have ⟨h30, hf⟩ := gd_e hf
  have ⟨h31, hf⟩ := gd_e hf
  refine g_iald hx hb hK hR h30 h31 d_X_fitsAllSeen_52 ?_
  refine g_nI hf (fun x32 hf => ?_)
  refine lv_icmp_eq (tgt := 58) hx hb d_X_fitsAllSeen_53 (by decide) (fun hc => ?_) (fun hc => ?_)
  · have hf := cd_t hc hf
    refine g_iinc (lv' := fun x33 => [(2, .int x33), (0, .ref (B + a0)), (1, .ref (B + a1))]) hf hx hb d_X_fitsAllSeen_58 hl (k := 2) rfl (by decide) (by decide) (fun _ => rfl) (fun x33 ls hf hl => ?_)
    refine lv_goto (tgt := 2) hx hb d_X_fitsAllSeen_61 (by decide) ?_
    exact ih2 a0 a1 x33 w21 _ _ _ hf (lv_sub hl [1, 2, 0] rfl) hR hS
  have hf := cd_f hc hf
  refine lv_iconst (v := 0) hx hb d_X_fitsAllSeen_56 (by decide) ?_
  exact g_iret hx hb hr hlocks hR hS hf rfl d_X_fitsAllSeen_57
theorem c_X_fitsAllSeen_l2 {r : Int32} {wz : gW} (C : gC p s m args meth c "RidCoppers" b_X_fitsAllSeen 3 (some .boolean) D cA oc B) (a0 : Nat) (a1 : Nat) (a2 : Int32) (w : gW) {ls : Array Slot} {H : Heap} {locs : List Loc} (hl : lv_has ls 3 [(0, .ref (B + a0)), (1, .ref (B + a1)), (2, .int a2)]) (hf : f_X_fitsAllSeen_l2 N a0 a1 a2 w = some (r, wz)) (hR : gRep D cA B w H) (hS : va_S (gA B) s.heap H locs) : W p l e ({ frames := 7, cells := 0, slots := 0, locals := 193 } : Room) s m args below meth c H locs 0 0 (MQ below (gQi D cA B r wz) args s 0 0 (gA B)) (F0 m 2 ls []) := by
  unfold f_X_fitsAllSeen_l2 at hf
  suffices hh : ∀ n : Nat, ∀ (a0 : Nat) (a1 : Nat) (a2 : Int32) (w : gW) (ls : Array Slot) (H : Heap) (locs : List Loc), itr (fun rec (q : Nat × Nat × Int32 × gW) => f_X_fitsAllSeen_b2 N rec q.1 q.2.1 q.2.2.1 q.2.2.2) n (a0, a1, a2, w) = some (r, wz) → lv_has ls 3 [(0, .ref (B + a0)), (1, .ref (B + a1)), (2, .int a2)] → gRep D cA B w H → va_S (gA B) s.heap H locs → W p l e ({ frames := 7, cells := 0, slots := 0, locals := 193 } : Room) s m args below meth c H locs 0 0 (MQ below (gQi D cA B r wz) args s 0 0 (gA B)) (F0 m 2 ls []) from hh N a0 a1 a2 w ls H locs hf hl hR hS
  intro n
  induction n with
  | zero => intro a0 a1 a2 w ls H locs hf; cases hf
  | succ n ihn =>
    intro a0 a1 a2 w ls H locs hf hl hR hS
    exact c_X_fitsAllSeen_b2 (N := N) ihn C a0 a1 a2 w hl ((itr_s _ _ _).symm.trans hf) hR hS
set_option maxRecDepth 20000 in
theorem c_X_fitsAllSeen_b0 {r : Int32} {wz : gW} (C : gC p s m args meth c "RidCoppers" b_X_fitsAllSeen 3 (some .boolean) D cA oc B) (a0 : Nat) (a1 : Nat) (w : gW) {ls : Array Slot} {H : Heap} {locs : List Loc} (hl : lv_has ls 3 [(0, .ref (B + a0)), (1, .ref (B + a1))]) (hf : f_X_fitsAllSeen_b0 N a0 a1 w = some (r, wz)) (hR : gRep D cA B w H) (hS : va_S (gA B) s.heap H locs) : W p l e ({ frames := 7, cells := 0, slots := 0, locals := 193 } : Room) s m args below meth c H locs 0 0 (MQ below (gQi D cA B r wz) args s 0 0 (gA B)) (F0 m 0 ls []) := by
  obtain ⟨hx, hb, hml, hown, hts, hr, hlocks, hK, hBs⟩ := id C
  unfold f_X_fitsAllSeen_b0 at hf
  refine lv_iconst (v := 0) hx hb d_X_fitsAllSeen_0 (by decide) ?_
  refine lv_istore_n (lv' := [(2, .int 0), (0, .ref (B + a0)), (1, .ref (B + a1))]) hx hb d_X_fitsAllSeen_1 rfl hl (by decide) rfl (fun ls hl => ?_)
  exact c_X_fitsAllSeen_l2 C a0 a1 0 w (lv_sub hl [1, 2, 0] rfl) hf hR hS
theorem c_X_fitsAllSeen (l : Launch) (D : va_G) (cA : Nat → ClassId) (oc : gO) (B N : Nat) (a0 : Nat) (a1 : Nat) (w : gW) {wz : gW} {r : Int32} (hf : f_X_fitsAllSeen N a0 a1 w = some (r, wz)) : Met l y_X_fitsAllSeen (Cond.code y_X_fitsAllSeen b_X_fitsAllSeen 3 (some .boolean) :: lw_good) ({ frames := 7, cells := 0, slots := 0, locals := 193 } : Room) (gPre D cA oc B [.ref (B + a0), .ref (B + a1)] w) (gQi D cA B r wz) 0 0 (gA B) := by
  refine Met.ofW (cc := b_X_fitsAllSeen) (maxL := 3) (ret := (some .boolean)) (by decide +kernel) rfl ?_
  intro p e s m args below meth c s₁ Bd hml hv
  obtain ⟨hargs, C, hR⟩ := gC.enter (l := l) rfl Bd hml hv
  subst hargs
  have hl := lv_entry ([.ref (B + a0), .ref (B + a1)]) (n := 3) (Nat.le_of_ble_eq_true rfl)
  rw [lg_entry_eq]
  generalize (lg_sl ([.ref (B + a0), .ref (B + a1)]) ++ List.replicate (3 - (lg_sl ([.ref (B + a0), .ref (B + a1)])).length) Slot.unset).toArray = ls at hl ⊢
  have hl : lv_has ls 3 [(0, .ref (B + a0)), (1, .ref (B + a1))] := hl
  exact c_X_fitsAllSeen_b0 C a0 a1 w (lv_sub hl [0, 1] rfl) hf hR va_S.rf
theorem d_X_fits_0 : decode b_X_fits 0 = .ok (.iconst 0, 1) := by decide +kernel
theorem d_X_fits_1 : decode b_X_fits 1 = .ok (.istore_n 1, 1) := by decide +kernel
theorem d_X_fits_2 : decode b_X_fits 2 = .ok (.iconst 0, 1) := by decide +kernel
theorem d_X_fits_3 : decode b_X_fits 3 = .ok (.istore_n 2, 1) := by decide +kernel
theorem d_X_fits_4 : decode b_X_fits 4 = .ok (.iload_n 2, 1) := by decide +kernel
theorem d_X_fits_5 : decode b_X_fits 5 = .ok (.aload_n 0, 1) := by decide +kernel
theorem d_X_fits_6 : decode b_X_fits 6 = .ok (.getfield 23, 3) := by decide +kernel
theorem d_X_fits_9 : decode b_X_fits 9 = .ok (.getfield 81, 3) := by decide +kernel
theorem d_X_fits_12 : decode b_X_fits 12 = .ok (.if_icmp .ge 31, 3) := by decide +kernel
theorem d_X_fits_15 : decode b_X_fits 15 = .ok (.aload_n 0, 1) := by decide +kernel
theorem d_X_fits_16 : decode b_X_fits 16 = .ok (.aload_n 0, 1) := by decide +kernel
theorem d_X_fits_17 : decode b_X_fits 17 = .ok (.getfield 23, 3) := by decide +kernel
theorem d_X_fits_20 : decode b_X_fits 20 = .ok (.getfield 84, 3) := by decide +kernel
theorem d_X_fits_23 : decode b_X_fits 23 = .ok (.iload_n 2, 1) := by decide +kernel
theorem d_X_fits_24 : decode b_X_fits 24 = .ok (.aaload, 1) := by decide +kernel
theorem d_X_fits_25 : decode b_X_fits 25 = .ok (.invokevirtual 223, 3) := by decide +kernel
theorem d_X_fits_28 : decode b_X_fits 28 = .ok (.ifCond .eq 9, 3) := by decide +kernel
theorem d_X_fits_31 : decode b_X_fits 31 = .ok (.iload_n 1, 1) := by decide +kernel
theorem d_X_fits_32 : decode b_X_fits 32 = .ok (.iconst 1, 1) := by decide +kernel
theorem d_X_fits_33 : decode b_X_fits 33 = .ok (.iload_n 2, 1) := by decide +kernel
theorem d_X_fits_34 : decode b_X_fits 34 = .ok (.ishl, 1) := by decide +kernel
theorem d_X_fits_35 : decode b_X_fits 35 = .ok (.ior, 1) := by decide +kernel
theorem d_X_fits_36 : decode b_X_fits 36 = .ok (.istore_n 1, 1) := by decide +kernel
theorem d_X_fits_37 : decode b_X_fits 37 = .ok (.iinc 2 1, 3) := by decide +kernel
theorem d_X_fits_40 : decode b_X_fits 40 = .ok (.goto (-36), 3) := by decide +kernel
theorem d_X_fits_43 : decode b_X_fits 43 = .ok (.iload_n 1, 1) := by decide +kernel
theorem d_X_fits_44 : decode b_X_fits 44 = .ok (.ireturn, 1) := by decide +kernel
set_option maxRecDepth 20000 in
theorem c_X_fits_b4 {r : Int32} {wz : gW} {rec4 : Nat × Int32 × Int32 × gW → Option (Int32 × gW)} (ih4 : ∀ (a0 : Nat) (a1 : Int32) (a2 : Int32) (w : gW) (ls : Array Slot) (H : Heap) (locs : List Loc), rec4 (a0, a1, a2, w) = some (r, wz) → lv_has ls 3 [(0, .ref (B + a0)), (1, .int a1), (2, .int a2)] → gRep D cA B w H → va_S (gA B) s.heap H locs → W p l e ({ frames := 8, cells := 0, slots := 0, locals := 215 } : Room) s m args below meth c H locs 0 0 (MQ below (gQi D cA B r wz) args s 0 0 (gA B)) (F0 m 4 ls [])) (C : gC p s m args meth c "RidCoppers" b_X_fits 3 (some .int) D cA oc B) (a0 : Nat) (a1 : Int32) (a2 : Int32) (w : gW) {ls : Array Slot} {H : Heap} {locs : List Loc} (hl : lv_has ls 3 [(0, .ref (B + a0)), (1, .int a1), (2, .int a2)]) (hf : f_X_fits_b4 N rec4 a0 a1 a2 w = some (r, wz)) (hR : gRep D cA B w H) (hS : va_S (gA B) s.heap H locs) : W p l e ({ frames := 8, cells := 0, slots := 0, locals := 215 } : Room) s m args below meth c H locs 0 0 (MQ below (gQi D cA B r wz) args s 0 0 (gA B)) (F0 m 4 ls []) := by
  obtain ⟨hx, hb, hml, hown, hts, hr, hlocks, hK, hBs⟩ := id C
  unfold f_X_fits_b4 at hf
  refine lv_iload_n hx hb d_X_fits_4 rfl (lv_at hl 2 rfl) ?_
  refine lv_aload_n hx hb d_X_fits_5 rfl (lv_at hl 0 rfl) ?_
  have ⟨h1, hf⟩ := gd_e hf
  have ⟨x2, h3, hf⟩ := rr_e hf
  refine g_getR hx hb hts hown hK hR fl_X_23 (fun _ => rfl) h1 h3 d_X_fits_6 ?_
  have ⟨h4, hf⟩ := gd_e hf
  refine g_getI hx hb hts hown hK hR fl_X_81 (fun _ => rfl) h4 d_X_fits_9 ?_
  refine g_nI hf (fun x5 hf => ?_)
  refine lv_icmp_ge (tgt := 43) hx hb d_X_fits_12 (by decide) (fun hc => ?_) (fun hc => ?_)
  · have hf := cd_t hc hf
    refine lv_iload_n hx hb d_X_fits_43 rfl (lv_at hl 1 rfl) ?_
    exact g_iret hx hb hr hlocks hR hS hf rfl d_X_fits_44
  have hf := cd_f hc hf
  refine lv_aload_n hx hb d_X_fits_15 rfl (lv_at hl 0 rfl) ?_
  refine lv_aload_n hx hb d_X_fits_16 rfl (lv_at hl 0 rfl) ?_
  refine g_getR hx hb hts hown hK hR fl_X_23 (fun _ => rfl) h1 h3 d_X_fits_17 ?_
  have ⟨x6, h7, hf⟩ := rr_e hf
  refine g_getR hx hb hts hown hK hR fl_X_84 (fun _ => rfl) h4 h7 d_X_fits_20 ?_
  refine lv_iload_n hx hb d_X_fits_23 rfl (lv_at hl 2 rfl) ?_
  have ⟨h8, hf⟩ := gd_e hf
  have ⟨h9, hf⟩ := gd_e hf
  have ⟨x10, h11, hf⟩ := rr_e hf
  refine g_aald hx hb hK hR (by decide) rfl (fun _ _ => rfl) h8 h9 h11 d_X_fits_24 ?_
  have ⟨x12, w13, h14, hf⟩ := kl_e hf
  refine g_ki0 (g_rV (As := [.ref (B + x10)]) (rest := []) hx hb hml hown hts hK hR hS (c_X_fitsAllSeen l D cA oc B N a0 x10 w h14) I_X_fitsAllSeen m_813 mp_26 (gRecv hK hR (ci := 11) rfl h1) rfl rfl (Nat.le_of_ble_eq_true rfl) hl.1 ⟨Nat.le_of_ble_eq_true rfl, Nat.le_of_ble_eq_true rfl⟩ ⟨Nat.le_of_ble_eq_true rfl, Nat.le_of_ble_eq_true rfl⟩ d_X_fits_25) hS (fun H locs hR hS => ?_)
  refine lv_if_eq (tgt := 37) hx hb d_X_fits_28 (by decide) (fun hc => ?_) (fun hc => ?_)
  · have hf := cd_t hc hf
    refine g_iinc (lv' := fun x15 => [(2, .int x15), (0, .ref (B + a0)), (1, .int a1)]) hf hx hb d_X_fits_37 hl (k := 2) rfl (by decide) (by decide) (fun _ => rfl) (fun x15 ls hf hl => ?_)
    refine lv_goto (tgt := 4) hx hb d_X_fits_40 (by decide) ?_
    exact ih4 a0 a1 x15 w13 _ _ _ hf (lv_sub hl [1, 2, 0] rfl) hR hS
  have hf := cd_f hc hf
  refine lv_iload_n hx hb d_X_fits_31 rfl (lv_at hl 1 rfl) ?_
  refine lv_iconst (v := 1) hx hb d_X_fits_32 (by decide) ?_
  refine lv_iload_n hx hb d_X_fits_33 rfl (lv_at hl 2 rfl) ?_
  refine lv_ishl hx hb d_X_fits_34 ?_
  refine g_nI hf (fun x16 hf => ?_)
  refine lv_ior hx hb d_X_fits_35 ?_
  refine g_nI hf (fun x17 hf => ?_)
  refine lv_istore_n (lv' := [(1, .int x17), (0, .ref (B + a0)), (2, .int a2)]) hx hb d_X_fits_36 rfl hl (by decide) rfl (fun ls hl => ?_)
  refine g_iinc (lv' := fun x18 => [(2, .int x18), (1, .int x17), (0, .ref (B + a0))]) hf hx hb d_X_fits_37 hl (k := 2) rfl (by decide) (by decide) (fun _ => rfl) (fun x18 ls hf hl => ?_)
  refine lv_goto (tgt := 4) hx hb d_X_fits_40 (by decide) ?_
  exact ih4 a0 x17 x18 w13 _ _ _ hf (lv_sub hl [2, 1, 0] rfl) hR hS
theorem c_X_fits_l4 {r : Int32} {wz : gW} (C : gC p s m args meth c "RidCoppers" b_X_fits 3 (some .int) D cA oc B) (a0 : Nat) (a1 : Int32) (a2 : Int32) (w : gW) {ls : Array Slot} {H : Heap} {locs : List Loc} (hl : lv_has ls 3 [(0, .ref (B + a0)), (1, .int a1), (2, .int a2)]) (hf : f_X_fits_l4 N a0 a1 a2 w = some (r, wz)) (hR : gRep D cA B w H) (hS : va_S (gA B) s.heap H locs) : W p l e ({ frames := 8, cells := 0, slots := 0, locals := 215 } : Room) s m args below meth c H locs 0 0 (MQ below (gQi D cA B r wz) args s 0 0 (gA B)) (F0 m 4 ls []) := by
  unfold f_X_fits_l4 at hf
  suffices hh : ∀ n : Nat, ∀ (a0 : Nat) (a1 : Int32) (a2 : Int32) (w : gW) (ls : Array Slot) (H : Heap) (locs : List Loc), itr (fun rec (q : Nat × Int32 × Int32 × gW) => f_X_fits_b4 N rec q.1 q.2.1 q.2.2.1 q.2.2.2) n (a0, a1, a2, w) = some (r, wz) → lv_has ls 3 [(0, .ref (B + a0)), (1, .int a1), (2, .int a2)] → gRep D cA B w H → va_S (gA B) s.heap H locs → W p l e ({ frames := 8, cells := 0, slots := 0, locals := 215 } : Room) s m args below meth c H locs 0 0 (MQ below (gQi D cA B r wz) args s 0 0 (gA B)) (F0 m 4 ls []) from hh N a0 a1 a2 w ls H locs hf hl hR hS
  intro n
  induction n with
  | zero => intro a0 a1 a2 w ls H locs hf; cases hf
  | succ n ihn =>
    intro a0 a1 a2 w ls H locs hf hl hR hS
    exact c_X_fits_b4 (N := N) ihn C a0 a1 a2 w hl ((itr_s _ _ _).symm.trans hf) hR hS
set_option maxRecDepth 20000 in
theorem c_X_fits_b0 {r : Int32} {wz : gW} (C : gC p s m args meth c "RidCoppers" b_X_fits 3 (some .int) D cA oc B) (a0 : Nat) (w : gW) {ls : Array Slot} {H : Heap} {locs : List Loc} (hl : lv_has ls 3 [(0, .ref (B + a0))]) (hf : f_X_fits_b0 N a0 w = some (r, wz)) (hR : gRep D cA B w H) (hS : va_S (gA B) s.heap H locs) : W p l e ({ frames := 8, cells := 0, slots := 0, locals := 215 } : Room) s m args below meth c H locs 0 0 (MQ below (gQi D cA B r wz) args s 0 0 (gA B)) (F0 m 0 ls []) := by
  obtain ⟨hx, hb, hml, hown, hts, hr, hlocks, hK, hBs⟩ := id C
  unfold f_X_fits_b0 at hf
  refine lv_iconst (v := 0) hx hb d_X_fits_0 (by decide) ?_
  refine lv_istore_n (lv' := [(1, .int 0), (0, .ref (B + a0))]) hx hb d_X_fits_1 rfl hl (by decide) rfl (fun ls hl => ?_)
  refine lv_iconst (v := 0) hx hb d_X_fits_2 (by decide) ?_
  refine lv_istore_n (lv' := [(2, .int 0), (1, .int 0), (0, .ref (B + a0))]) hx hb d_X_fits_3 rfl hl (by decide) rfl (fun ls hl => ?_)
  exact c_X_fits_l4 C a0 0 0 w (lv_sub hl [2, 1, 0] rfl) hf hR hS
theorem c_X_fits (l : Launch) (D : va_G) (cA : Nat → ClassId) (oc : gO) (B N : Nat) (a0 : Nat) (w : gW) {wz : gW} {r : Int32} (hf : f_X_fits N a0 w = some (r, wz)) : Met l y_X_fits (Cond.code y_X_fits b_X_fits 3 (some .int) :: lw_good) ({ frames := 8, cells := 0, slots := 0, locals := 215 } : Room) (gPre D cA oc B [.ref (B + a0)] w) (gQi D cA B r wz) 0 0 (gA B) := by
  refine Met.ofW (cc := b_X_fits) (maxL := 3) (ret := (some .int)) (by decide +kernel) rfl ?_
  intro p e s m args below meth c s₁ Bd hml hv
  obtain ⟨hargs, C, hR⟩ := gC.enter (l := l) rfl Bd hml hv
  subst hargs
  have hl := lv_entry ([.ref (B + a0)]) (n := 3) (Nat.le_of_ble_eq_true rfl)
  rw [lg_entry_eq]
  generalize (lg_sl ([.ref (B + a0)]) ++ List.replicate (3 - (lg_sl ([.ref (B + a0)])).length) Slot.unset).toArray = ls at hl ⊢
  have hl : lv_has ls 3 [(0, .ref (B + a0))] := hl
  exact c_X_fits_b0 C a0 w (lv_sub hl [0] rfl) hf hR va_S.rf
theorem d_X_commonDivisor_0 : decode b_X_commonDivisor 0 = .ok (.iload_n 0, 1) := by decide +kernel
theorem d_X_commonDivisor_1 : decode b_X_commonDivisor 1 = .ok (.istore_n 2, 1) := by decide +kernel
theorem d_X_commonDivisor_2 : decode b_X_commonDivisor 2 = .ok (.iload_n 1, 1) := by decide +kernel
theorem d_X_commonDivisor_3 : decode b_X_commonDivisor 3 = .ok (.istore_n 3, 1) := by decide +kernel
theorem d_X_commonDivisor_4 : decode b_X_commonDivisor 4 = .ok (.iconst 0, 1) := by decide +kernel
theorem d_X_commonDivisor_5 : decode b_X_commonDivisor 5 = .ok (.istore 4, 2) := by decide +kernel
theorem d_X_commonDivisor_7 : decode b_X_commonDivisor 7 = .ok (.iload 4, 2) := by decide +kernel
theorem d_X_commonDivisor_9 : decode b_X_commonDivisor 9 = .ok (.bipush 100, 2) := by decide +kernel
theorem d_X_commonDivisor_11 : decode b_X_commonDivisor 11 = .ok (.if_icmp .ge 23, 3) := by decide +kernel
theorem d_X_commonDivisor_14 : decode b_X_commonDivisor 14 = .ok (.iload_n 3, 1) := by decide +kernel
theorem d_X_commonDivisor_15 : decode b_X_commonDivisor 15 = .ok (.ifCond .eq 19, 3) := by decide +kernel
theorem d_X_commonDivisor_18 : decode b_X_commonDivisor 18 = .ok (.iload_n 2, 1) := by decide +kernel
theorem d_X_commonDivisor_19 : decode b_X_commonDivisor 19 = .ok (.iload_n 3, 1) := by decide +kernel
theorem d_X_commonDivisor_20 : decode b_X_commonDivisor 20 = .ok (.irem, 1) := by decide +kernel
theorem d_X_commonDivisor_21 : decode b_X_commonDivisor 21 = .ok (.istore 5, 2) := by decide +kernel
theorem d_X_commonDivisor_23 : decode b_X_commonDivisor 23 = .ok (.iload_n 3, 1) := by decide +kernel
theorem d_X_commonDivisor_24 : decode b_X_commonDivisor 24 = .ok (.istore_n 2, 1) := by decide +kernel
theorem d_X_commonDivisor_25 : decode b_X_commonDivisor 25 = .ok (.iload 5, 2) := by decide +kernel
theorem d_X_commonDivisor_27 : decode b_X_commonDivisor 27 = .ok (.istore_n 3, 1) := by decide +kernel
theorem d_X_commonDivisor_28 : decode b_X_commonDivisor 28 = .ok (.iinc 4 1, 3) := by decide +kernel
theorem d_X_commonDivisor_31 : decode b_X_commonDivisor 31 = .ok (.goto (-24), 3) := by decide +kernel
theorem d_X_commonDivisor_34 : decode b_X_commonDivisor 34 = .ok (.iload_n 2, 1) := by decide +kernel
theorem d_X_commonDivisor_35 : decode b_X_commonDivisor 35 = .ok (.ireturn, 1) := by decide +kernel
set_option maxRecDepth 20000 in
theorem c_X_commonDivisor_b7 {r : Int32} {wz : gW} {rec7 : Int32 × Int32 × Int32 × gW → Option (Int32 × gW)} (ih7 : ∀ (a2 : Int32) (a3 : Int32) (a4 : Int32) (w : gW) (ls : Array Slot) (H : Heap) (locs : List Loc), rec7 (a2, a3, a4, w) = some (r, wz) → lv_has ls 6 [(2, .int a2), (3, .int a3), (4, .int a4)] → gRep D cA B w H → va_S (gA B) s.heap H locs → W p l e ({ frames := 1, cells := 0, slots := 0, locals := 40 } : Room) s m args below meth c H locs 0 0 (MQ below (gQi D cA B r wz) args s 0 0 (gA B)) (F0 m 7 ls [])) (C : gC p s m args meth c "RidCoppers" b_X_commonDivisor 6 (some .int) D cA oc B) (a2 : Int32) (a3 : Int32) (a4 : Int32) (w : gW) {ls : Array Slot} {H : Heap} {locs : List Loc} (hl : lv_has ls 6 [(2, .int a2), (3, .int a3), (4, .int a4)]) (hf : f_X_commonDivisor_b7 N rec7 a2 a3 a4 w = some (r, wz)) (hR : gRep D cA B w H) (hS : va_S (gA B) s.heap H locs) : W p l e ({ frames := 1, cells := 0, slots := 0, locals := 40 } : Room) s m args below meth c H locs 0 0 (MQ below (gQi D cA B r wz) args s 0 0 (gA B)) (F0 m 7 ls []) := by
  obtain ⟨hx, hb, hml, hown, hts, hr, hlocks, hK, hBs⟩ := id C
  unfold f_X_commonDivisor_b7 at hf
  refine lv_iload hx hb d_X_commonDivisor_7 (lv_at hl 2 rfl) ?_
  refine lv_bipush (v := 100) hx hb d_X_commonDivisor_9 (by decide) ?_
  refine lv_icmp_ge (tgt := 34) hx hb d_X_commonDivisor_11 (by decide) (fun hc => ?_) (fun hc => ?_)
  · have hf := cd_t hc hf
    refine lv_iload_n hx hb d_X_commonDivisor_34 rfl (lv_at hl 0 rfl) ?_
    exact g_iret hx hb hr hlocks hR hS hf rfl d_X_commonDivisor_35
  have hf := cd_f hc hf
  refine lv_iload_n hx hb d_X_commonDivisor_14 rfl (lv_at hl 1 rfl) ?_
  refine lv_if_eq (tgt := 34) hx hb d_X_commonDivisor_15 (by decide) (fun hc => ?_) (fun hc => ?_)
  · have hf := cd_t hc hf
    refine lv_iload_n hx hb d_X_commonDivisor_34 rfl (lv_at hl 0 rfl) ?_
    exact g_iret hx hb hr hlocks hR hS hf rfl d_X_commonDivisor_35
  have hf := cd_f hc hf
  refine lv_iload_n hx hb d_X_commonDivisor_18 rfl (lv_at hl 0 rfl) ?_
  refine lv_iload_n hx hb d_X_commonDivisor_19 rfl (lv_at hl 1 rfl) ?_
  have ⟨h1, hf⟩ := gd_e hf
  refine lv_irem hx hb d_X_commonDivisor_20 h1 ?_
  refine g_nI hf (fun x2 hf => ?_)
  refine lv_istore (lv' := [(5, .int x2), (2, .int a2), (3, .int a3), (4, .int a4)]) hx hb d_X_commonDivisor_21 hl (by decide) rfl (fun ls hl => ?_)
  refine lv_iload_n hx hb d_X_commonDivisor_23 rfl (lv_at hl 2 rfl) ?_
  refine lv_istore_n (lv' := [(2, .int a3), (5, .int x2), (3, .int a3), (4, .int a4)]) hx hb d_X_commonDivisor_24 rfl hl (by decide) rfl (fun ls hl => ?_)
  refine lv_iload hx hb d_X_commonDivisor_25 (lv_at hl 1 rfl) ?_
  refine lv_istore_n (lv' := [(3, .int x2), (2, .int a3), (5, .int x2), (4, .int a4)]) hx hb d_X_commonDivisor_27 rfl hl (by decide) rfl (fun ls hl => ?_)
  refine g_iinc (lv' := fun x3 => [(4, .int x3), (3, .int x2), (2, .int a3), (5, .int x2)]) hf hx hb d_X_commonDivisor_28 hl (k := 3) rfl (by decide) (by decide) (fun _ => rfl) (fun x3 ls hf hl => ?_)
  refine lv_goto (tgt := 7) hx hb d_X_commonDivisor_31 (by decide) ?_
  exact ih7 a3 x2 x3 w _ _ _ hf (lv_sub hl [2, 1, 0] rfl) hR hS
theorem c_X_commonDivisor_l7 {r : Int32} {wz : gW} (C : gC p s m args meth c "RidCoppers" b_X_commonDivisor 6 (some .int) D cA oc B) (a2 : Int32) (a3 : Int32) (a4 : Int32) (w : gW) {ls : Array Slot} {H : Heap} {locs : List Loc} (hl : lv_has ls 6 [(2, .int a2), (3, .int a3), (4, .int a4)]) (hf : f_X_commonDivisor_l7 N a2 a3 a4 w = some (r, wz)) (hR : gRep D cA B w H) (hS : va_S (gA B) s.heap H locs) : W p l e ({ frames := 1, cells := 0, slots := 0, locals := 40 } : Room) s m args below meth c H locs 0 0 (MQ below (gQi D cA B r wz) args s 0 0 (gA B)) (F0 m 7 ls []) := by
  unfold f_X_commonDivisor_l7 at hf
  suffices hh : ∀ n : Nat, ∀ (a2 : Int32) (a3 : Int32) (a4 : Int32) (w : gW) (ls : Array Slot) (H : Heap) (locs : List Loc), itr (fun rec (q : Int32 × Int32 × Int32 × gW) => f_X_commonDivisor_b7 N rec q.1 q.2.1 q.2.2.1 q.2.2.2) n (a2, a3, a4, w) = some (r, wz) → lv_has ls 6 [(2, .int a2), (3, .int a3), (4, .int a4)] → gRep D cA B w H → va_S (gA B) s.heap H locs → W p l e ({ frames := 1, cells := 0, slots := 0, locals := 40 } : Room) s m args below meth c H locs 0 0 (MQ below (gQi D cA B r wz) args s 0 0 (gA B)) (F0 m 7 ls []) from hh N a2 a3 a4 w ls H locs hf hl hR hS
  intro n
  induction n with
  | zero => intro a2 a3 a4 w ls H locs hf; cases hf
  | succ n ihn =>
    intro a2 a3 a4 w ls H locs hf hl hR hS
    exact c_X_commonDivisor_b7 (N := N) ihn C a2 a3 a4 w hl ((itr_s _ _ _).symm.trans hf) hR hS
set_option maxRecDepth 20000 in
theorem c_X_commonDivisor_b0 {r : Int32} {wz : gW} (C : gC p s m args meth c "RidCoppers" b_X_commonDivisor 6 (some .int) D cA oc B) (a0 : Int32) (a1 : Int32) (w : gW) {ls : Array Slot} {H : Heap} {locs : List Loc} (hl : lv_has ls 6 [(0, .int a0), (1, .int a1)]) (hf : f_X_commonDivisor_b0 N a0 a1 w = some (r, wz)) (hR : gRep D cA B w H) (hS : va_S (gA B) s.heap H locs) : W p l e ({ frames := 1, cells := 0, slots := 0, locals := 40 } : Room) s m args below meth c H locs 0 0 (MQ below (gQi D cA B r wz) args s 0 0 (gA B)) (F0 m 0 ls []) := by
  obtain ⟨hx, hb, hml, hown, hts, hr, hlocks, hK, hBs⟩ := id C
  unfold f_X_commonDivisor_b0 at hf
  refine lv_iload_n hx hb d_X_commonDivisor_0 rfl (lv_at hl 0 rfl) ?_
  refine lv_istore_n (lv' := [(2, .int a0), (0, .int a0), (1, .int a1)]) hx hb d_X_commonDivisor_1 rfl hl (by decide) rfl (fun ls hl => ?_)
  refine lv_iload_n hx hb d_X_commonDivisor_2 rfl (lv_at hl 2 rfl) ?_
  refine lv_istore_n (lv' := [(3, .int a1), (2, .int a0), (0, .int a0), (1, .int a1)]) hx hb d_X_commonDivisor_3 rfl hl (by decide) rfl (fun ls hl => ?_)
  refine lv_iconst (v := 0) hx hb d_X_commonDivisor_4 (by decide) ?_
  refine lv_istore (lv' := [(4, .int 0), (3, .int a1), (2, .int a0), (0, .int a0), (1, .int a1)]) hx hb d_X_commonDivisor_5 hl (by decide) rfl (fun ls hl => ?_)
  exact c_X_commonDivisor_l7 C a0 a1 0 w (lv_sub hl [2, 1, 0] rfl) hf hR hS
theorem c_X_commonDivisor (l : Launch) (D : va_G) (cA : Nat → ClassId) (oc : gO) (B N : Nat) (a0 : Int32) (a1 : Int32) (w : gW) {wz : gW} {r : Int32} (hf : f_X_commonDivisor N a0 a1 w = some (r, wz)) : Met l y_X_commonDivisor (Cond.code y_X_commonDivisor b_X_commonDivisor 6 (some .int) :: lw_good) ({ frames := 1, cells := 0, slots := 0, locals := 40 } : Room) (gPre D cA oc B [.int a0, .int a1] w) (gQi D cA B r wz) 0 0 (gA B) := by
  refine Met.ofW (cc := b_X_commonDivisor) (maxL := 6) (ret := (some .int)) (by decide +kernel) rfl ?_
  intro p e s m args below meth c s₁ Bd hml hv
  obtain ⟨hargs, C, hR⟩ := gC.enter (l := l) rfl Bd hml hv
  subst hargs
  have hl := lv_entry ([.int a0, .int a1]) (n := 6) (Nat.le_of_ble_eq_true rfl)
  rw [lg_entry_eq]
  generalize (lg_sl ([.int a0, .int a1]) ++ List.replicate (6 - (lg_sl ([.int a0, .int a1])).length) Slot.unset).toArray = ls at hl ⊢
  have hl : lv_has ls 6 [(0, .int a0), (1, .int a1)] := hl
  exact c_X_commonDivisor_b0 C a0 a1 w (lv_sub hl [0, 1] rfl) hf hR va_S.rf
theorem d_X_partOfFraction_0 : decode b_X_partOfFraction 0 = .ok (.iload_n 0, 1) := by decide +kernel
theorem d_X_partOfFraction_1 : decode b_X_partOfFraction 1 = .ok (.iload_n 1, 1) := by decide +kernel
theorem d_X_partOfFraction_2 : decode b_X_partOfFraction 2 = .ok (.invokestatic 302, 3) := by decide +kernel
theorem d_X_partOfFraction_5 : decode b_X_partOfFraction 5 = .ok (.istore_n 3, 1) := by decide +kernel
theorem d_X_partOfFraction_6 : decode b_X_partOfFraction 6 = .ok (.iload_n 3, 1) := by decide +kernel
theorem d_X_partOfFraction_7 : decode b_X_partOfFraction 7 = .ok (.ifCond .ne 7, 3) := by decide +kernel
theorem d_X_partOfFraction_10 : decode b_X_partOfFraction 10 = .ok (.ldc2_w 227, 3) := by decide +kernel
theorem d_X_partOfFraction_13 : decode b_X_partOfFraction 13 = .ok (.lreturn, 1) := by decide +kernel
theorem d_X_partOfFraction_14 : decode b_X_partOfFraction 14 = .ok (.iload_n 2, 1) := by decide +kernel
theorem d_X_partOfFraction_15 : decode b_X_partOfFraction 15 = .ok (.ifCond .ne 7, 3) := by decide +kernel
theorem d_X_partOfFraction_18 : decode b_X_partOfFraction 18 = .ok (.iload_n 0, 1) := by decide +kernel
theorem d_X_partOfFraction_19 : decode b_X_partOfFraction 19 = .ok (.goto 4, 3) := by decide +kernel
theorem d_X_partOfFraction_22 : decode b_X_partOfFraction 22 = .ok (.iload_n 1, 1) := by decide +kernel
theorem d_X_partOfFraction_23 : decode b_X_partOfFraction 23 = .ok (.iload_n 3, 1) := by decide +kernel
theorem d_X_partOfFraction_24 : decode b_X_partOfFraction 24 = .ok (.idiv, 1) := by decide +kernel
theorem d_X_partOfFraction_25 : decode b_X_partOfFraction 25 = .ok (.i2l, 1) := by decide +kernel
theorem d_X_partOfFraction_26 : decode b_X_partOfFraction 26 = .ok (.lreturn, 1) := by decide +kernel
set_option maxRecDepth 20000 in
theorem c_X_partOfFraction_b0 {r : Int64} {wz : gW} (C : gC p s m args meth c "RidCoppers" b_X_partOfFraction 4 (some .long) D cA oc B) (a0 : Int32) (a1 : Int32) (a2 : Int32) (w : gW) {ls : Array Slot} {H : Heap} {locs : List Loc} (hl : lv_has ls 4 [(0, .int a0), (1, .int a1), (2, .int a2)]) (hf : f_X_partOfFraction_b0 N a0 a1 a2 w = some (r, wz)) (hR : gRep D cA B w H) (hS : va_S (gA B) s.heap H locs) : W p l e ({ frames := 2, cells := 0, slots := 0, locals := 65 } : Room) s m args below meth c H locs 0 0 (MQ below (gQl D cA B r wz) args s 0 0 (gA B)) (F0 m 0 ls []) := by
  obtain ⟨hx, hb, hml, hown, hts, hr, hlocks, hK, hBs⟩ := id C
  unfold f_X_partOfFraction_b0 at hf
  refine lv_iload_n hx hb d_X_partOfFraction_0 rfl (lv_at hl 0 rfl) ?_
  refine lv_iload_n hx hb d_X_partOfFraction_1 rfl (lv_at hl 1 rfl) ?_
  have ⟨x1, w2, h3, hf⟩ := kl_e hf
  refine g_ki0 (g_rS (As := [.int a0, .int a1]) (rest := []) hx hb hml hown hts hK hR hS (c_X_commonDivisor l D cA oc B N a0 a1 w h3) I_X_commonDivisor m_825 rfl rfl (Nat.le_of_ble_eq_true rfl) hl.1 ⟨Nat.le_of_ble_eq_true rfl, Nat.le_of_ble_eq_true rfl⟩ ⟨Nat.le_of_ble_eq_true rfl, Nat.le_of_ble_eq_true rfl⟩ d_X_partOfFraction_2) hS (fun H locs hR hS => ?_)
  refine lv_istore_n (lv' := [(3, .int x1), (0, .int a0), (1, .int a1), (2, .int a2)]) hx hb d_X_partOfFraction_5 rfl hl (by decide) rfl (fun ls hl => ?_)
  refine lv_iload_n hx hb d_X_partOfFraction_6 rfl (lv_at hl 0 rfl) ?_
  refine lv_if_ne (tgt := 14) hx hb d_X_partOfFraction_7 (by decide) (fun hc => ?_) (fun hc => ?_)
  · have hf := cd_f hc hf
    refine lv_iload_n hx hb d_X_partOfFraction_14 rfl (lv_at hl 3 rfl) ?_
    refine lv_if_ne (tgt := 22) hx hb d_X_partOfFraction_15 (by decide) (fun hc => ?_) (fun hc => ?_)
    · have hf := cd_f hc hf
      refine lv_iload_n hx hb d_X_partOfFraction_22 rfl (lv_at hl 2 rfl) ?_
      refine lv_iload_n hx hb d_X_partOfFraction_23 rfl (lv_at hl 0 rfl) ?_
      have ⟨h4, hf⟩ := gd_e hf
      refine lv_idiv hx hb d_X_partOfFraction_24 h4 ?_
      refine g_nI hf (fun x5 hf => ?_)
      refine lv_i2l hx hb d_X_partOfFraction_25 rfl ?_
      refine g_nL hf (fun x6 hf => ?_)
      exact g_lret hx hb hr hlocks hR hS hf d_X_partOfFraction_26
    have hf := cd_t hc hf
    refine lv_iload_n hx hb d_X_partOfFraction_18 rfl (lv_at hl 1 rfl) ?_
    refine lv_goto (tgt := 23) hx hb d_X_partOfFraction_19 (by decide) ?_
    refine lv_iload_n hx hb d_X_partOfFraction_23 rfl (lv_at hl 0 rfl) ?_
    have ⟨h7, hf⟩ := gd_e hf
    refine lv_idiv hx hb d_X_partOfFraction_24 h7 ?_
    refine g_nI hf (fun x8 hf => ?_)
    refine lv_i2l hx hb d_X_partOfFraction_25 rfl ?_
    refine g_nL hf (fun x9 hf => ?_)
    exact g_lret hx hb hr hlocks hR hS hf d_X_partOfFraction_26
  have hf := cd_t hc hf
  refine lv_ldc2 hx hb hown (hts _ m_821) d_X_partOfFraction_10 ?_
  exact g_lret hx hb hr hlocks hR hS hf d_X_partOfFraction_13
theorem c_X_partOfFraction (l : Launch) (D : va_G) (cA : Nat → ClassId) (oc : gO) (B N : Nat) (a0 : Int32) (a1 : Int32) (a2 : Int32) (w : gW) {wz : gW} {r : Int64} (hf : f_X_partOfFraction N a0 a1 a2 w = some (r, wz)) : Met l y_X_partOfFraction (Cond.code y_X_partOfFraction b_X_partOfFraction 4 (some .long) :: lw_good) ({ frames := 2, cells := 0, slots := 0, locals := 65 } : Room) (gPre D cA oc B [.int a0, .int a1, .int a2] w) (gQl D cA B r wz) 0 0 (gA B) := by
  refine Met.ofW (cc := b_X_partOfFraction) (maxL := 4) (ret := (some .long)) (by decide +kernel) rfl ?_
  intro p e s m args below meth c s₁ Bd hml hv
  obtain ⟨hargs, C, hR⟩ := gC.enter (l := l) rfl Bd hml hv
  subst hargs
  have hl := lv_entry ([.int a0, .int a1, .int a2]) (n := 4) (Nat.le_of_ble_eq_true rfl)
  rw [lg_entry_eq]
  generalize (lg_sl ([.int a0, .int a1, .int a2]) ++ List.replicate (4 - (lg_sl ([.int a0, .int a1, .int a2])).length) Slot.unset).toArray = ls at hl ⊢
  have hl : lv_has ls 4 [(0, .int a0), (1, .int a1), (2, .int a2)] := hl
  exact c_X_partOfFraction_b0 C a0 a1 a2 w (lv_sub hl [0, 1, 2] rfl) hf hR va_S.rf
theorem d_X_odds_0 : decode b_X_odds 0 = .ok (.aload_n 0, 1) := by decide +kernel
theorem d_X_odds_1 : decode b_X_odds 1 = .ok (.iload_n 1, 1) := by decide +kernel
theorem d_X_odds_2 : decode b_X_odds 2 = .ok (.invokevirtual 92, 3) := by decide +kernel
theorem d_X_odds_5 : decode b_X_odds 5 = .ok (.astore_n 3, 1) := by decide +kernel
theorem d_X_odds_6 : decode b_X_odds 6 = .ok (.aload_n 3, 1) := by decide +kernel
theorem d_X_odds_7 : decode b_X_odds 7 = .ok (.ifnull 12, 3) := by decide +kernel
theorem d_X_odds_10 : decode b_X_odds 10 = .ok (.iload_n 2, 1) := by decide +kernel
theorem d_X_odds_11 : decode b_X_odds 11 = .ok (.ifCond .lt 8, 3) := by decide +kernel
theorem d_X_odds_14 : decode b_X_odds 14 = .ok (.iload_n 2, 1) := by decide +kernel
theorem d_X_odds_15 : decode b_X_odds 15 = .ok (.iconst 1, 1) := by decide +kernel
theorem d_X_odds_16 : decode b_X_odds 16 = .ok (.if_icmp .le 7, 3) := by decide +kernel
theorem d_X_odds_19 : decode b_X_odds 19 = .ok (.ldc2_w 227, 3) := by decide +kernel
theorem d_X_odds_22 : decode b_X_odds 22 = .ok (.lreturn, 1) := by decide +kernel
theorem d_X_odds_23 : decode b_X_odds 23 = .ok (.iconst 0, 1) := by decide +kernel
theorem d_X_odds_24 : decode b_X_odds 24 = .ok (.istore 4, 2) := by decide +kernel
theorem d_X_odds_26 : decode b_X_odds 26 = .ok (.iconst 1, 1) := by decide +kernel
theorem d_X_odds_27 : decode b_X_odds 27 = .ok (.istore 5, 2) := by decide +kernel
theorem d_X_odds_29 : decode b_X_odds 29 = .ok (.iload 5, 2) := by decide +kernel
theorem d_X_odds_31 : decode b_X_odds 31 = .ok (.bipush 20, 2) := by decide +kernel
theorem d_X_odds_33 : decode b_X_odds 33 = .ok (.if_icmp .gt 29, 3) := by decide +kernel
theorem d_X_odds_36 : decode b_X_odds 36 = .ok (.aload_n 0, 1) := by decide +kernel
theorem d_X_odds_37 : decode b_X_odds 37 = .ok (.getfield 40, 3) := by decide +kernel
theorem d_X_odds_40 : decode b_X_odds 40 = .ok (.aload_n 0, 1) := by decide +kernel
theorem d_X_odds_41 : decode b_X_odds 41 = .ok (.getfield 23, 3) := by decide +kernel
theorem d_X_odds_44 : decode b_X_odds 44 = .ok (.aload_n 3, 1) := by decide +kernel
theorem d_X_odds_45 : decode b_X_odds 45 = .ok (.iload 5, 2) := by decide +kernel
theorem d_X_odds_47 : decode b_X_odds 47 = .ok (.invokevirtual 196, 3) := by decide +kernel
theorem d_X_odds_50 : decode b_X_odds 50 = .ok (.ifCond .eq 6, 3) := by decide +kernel
theorem d_X_odds_53 : decode b_X_odds 53 = .ok (.iinc 4 1, 3) := by decide +kernel
theorem d_X_odds_56 : decode b_X_odds 56 = .ok (.iinc 5 1, 3) := by decide +kernel
theorem d_X_odds_59 : decode b_X_odds 59 = .ok (.goto (-30), 3) := by decide +kernel
theorem d_X_odds_62 : decode b_X_odds 62 = .ok (.iload 4, 2) := by decide +kernel
theorem d_X_odds_64 : decode b_X_odds 64 = .ok (.bipush 20, 2) := by decide +kernel
theorem d_X_odds_66 : decode b_X_odds 66 = .ok (.iload_n 2, 1) := by decide +kernel
theorem d_X_odds_67 : decode b_X_odds 67 = .ok (.invokestatic 229, 3) := by decide +kernel
theorem d_X_odds_70 : decode b_X_odds 70 = .ok (.lreturn, 1) := by decide +kernel
set_option maxRecDepth 20000 in
theorem c_X_odds_b29 {r : Int64} {wz : gW} {rec29 : Nat × Int32 × Nat × Int32 × Int32 × gW → Option (Int64 × gW)} (ih29 : ∀ (a0 : Nat) (a2 : Int32) (a3 : Nat) (a4 : Int32) (a5 : Int32) (w : gW) (ls : Array Slot) (H : Heap) (locs : List Loc), rec29 (a0, a2, a3, a4, a5, w) = some (r, wz) → lv_has ls 6 [(0, .ref (B + a0)), (2, .int a2), (3, .ref (B + a3)), (4, .int a4), (5, .int a5)] → gRep D cA B w H → va_S (gA B) s.heap H locs → W p l e ({ frames := 7, cells := 0, slots := 0, locals := 187 } : Room) s m args below meth c H locs 0 0 (MQ below (gQl D cA B r wz) args s 0 0 (gA B)) (F0 m 29 ls [])) (C : gC p s m args meth c "RidCoppers" b_X_odds 6 (some .long) D cA oc B) (a0 : Nat) (a2 : Int32) (a3 : Nat) (a4 : Int32) (a5 : Int32) (w : gW) {ls : Array Slot} {H : Heap} {locs : List Loc} (hl : lv_has ls 6 [(0, .ref (B + a0)), (2, .int a2), (3, .ref (B + a3)), (4, .int a4), (5, .int a5)]) (hf : f_X_odds_b29 N rec29 a0 a2 a3 a4 a5 w = some (r, wz)) (hR : gRep D cA B w H) (hS : va_S (gA B) s.heap H locs) : W p l e ({ frames := 7, cells := 0, slots := 0, locals := 187 } : Room) s m args below meth c H locs 0 0 (MQ below (gQl D cA B r wz) args s 0 0 (gA B)) (F0 m 29 ls []) := by
  obtain ⟨hx, hb, hml, hown, hts, hr, hlocks, hK, hBs⟩ := id C
  unfold f_X_odds_b29 at hf
  refine lv_iload hx hb d_X_odds_29 (lv_at hl 4 rfl) ?_
  refine lv_bipush (v := 20) hx hb d_X_odds_31 (by decide) ?_
  refine lv_icmp_gt (tgt := 62) hx hb d_X_odds_33 (by decide) (fun hc => ?_) (fun hc => ?_)
  · have hf := cd_t hc hf
    refine lv_iload hx hb d_X_odds_62 (lv_at hl 3 rfl) ?_
    refine lv_bipush (v := 20) hx hb d_X_odds_64 (by decide) ?_
    refine lv_iload_n hx hb d_X_odds_66 rfl (lv_at hl 1 rfl) ?_
    have ⟨x7, w8, h9, hf⟩ := kl_e hf
    refine g_kl0 (g_rS (As := [.int a4, .int 20, .int a2]) (rest := []) hx hb hml hown hts hK hR hS (c_X_partOfFraction l D cA oc B N a4 20 a2 w h9) I_X_partOfFraction m_822 rfl rfl (Nat.le_of_ble_eq_true rfl) hl.1 ⟨Nat.le_of_ble_eq_true rfl, Nat.le_of_ble_eq_true rfl⟩ ⟨Nat.le_of_ble_eq_true rfl, Nat.le_of_ble_eq_true rfl⟩ d_X_odds_67) hS (fun H locs hR hS => ?_)
    exact g_lret hx hb hr hlocks hR hS hf d_X_odds_70
  have hf := cd_f hc hf
  refine lv_aload_n hx hb d_X_odds_36 rfl (lv_at hl 0 rfl) ?_
  have ⟨h10, hf⟩ := gd_e hf
  have ⟨x11, h12, hf⟩ := rr_e hf
  refine g_getR hx hb hts hown hK hR fl_X_40 (fun _ => rfl) h10 h12 d_X_odds_37 ?_
  refine lv_aload_n hx hb d_X_odds_40 rfl (lv_at hl 0 rfl) ?_
  have ⟨x13, h14, hf⟩ := rr_e hf
  refine g_getR hx hb hts hown hK hR fl_X_23 (fun _ => rfl) h10 h14 d_X_odds_41 ?_
  refine lv_aload_n hx hb d_X_odds_44 rfl (lv_at hl 2 rfl) ?_
  refine lv_iload hx hb d_X_odds_45 (lv_at hl 4 rfl) ?_
  have ⟨h18, hf⟩ := gd_e hf
  have ⟨x15, w16, h17, hf⟩ := kl_e hf
  refine g_ki0 (g_rV (As := [.ref (B + x13), .ref (B + a3), .int a5]) (rest := []) hx hb hml hown hts hK hR hS (c_Pm_canPay l D cA oc B N x11 x13 a3 a5 w h17) I_Pm_canPay m_789 m_791 (gRecv hK hR (ci := 10) rfl h18) rfl rfl (Nat.le_of_ble_eq_true rfl) hl.1 ⟨Nat.le_of_ble_eq_true rfl, Nat.le_of_ble_eq_true rfl⟩ ⟨Nat.le_of_ble_eq_true rfl, Nat.le_of_ble_eq_true rfl⟩ d_X_odds_47) hS (fun H locs hR hS => ?_)
  refine lv_if_eq (tgt := 56) hx hb d_X_odds_50 (by decide) (fun hc => ?_) (fun hc => ?_)
  · have hf := cd_t hc hf
    refine g_iinc (lv' := fun x19 => [(5, .int x19), (0, .ref (B + a0)), (2, .int a2), (3, .ref (B + a3)), (4, .int a4)]) hf hx hb d_X_odds_56 hl (k := 4) rfl (by decide) (by decide) (fun _ => rfl) (fun x19 ls hf hl => ?_)
    refine lv_goto (tgt := 29) hx hb d_X_odds_59 (by decide) ?_
    exact ih29 a0 a2 a3 a4 x19 w16 _ _ _ hf (lv_sub hl [1, 2, 3, 4, 0] rfl) hR hS
  have hf := cd_f hc hf
  refine g_iinc (lv' := fun x20 => [(4, .int x20), (0, .ref (B + a0)), (2, .int a2), (3, .ref (B + a3)), (5, .int a5)]) hf hx hb d_X_odds_53 hl (k := 3) rfl (by decide) (by decide) (fun _ => rfl) (fun x20 ls hf hl => ?_)
  refine g_iinc (lv' := fun x21 => [(5, .int x21), (4, .int x20), (0, .ref (B + a0)), (2, .int a2), (3, .ref (B + a3))]) hf hx hb d_X_odds_56 hl (k := 4) rfl (by decide) (by decide) (fun _ => rfl) (fun x21 ls hf hl => ?_)
  refine lv_goto (tgt := 29) hx hb d_X_odds_59 (by decide) ?_
  exact ih29 a0 a2 a3 x20 x21 w16 _ _ _ hf (lv_sub hl [2, 3, 4, 1, 0] rfl) hR hS
theorem c_X_odds_l29 {r : Int64} {wz : gW} (C : gC p s m args meth c "RidCoppers" b_X_odds 6 (some .long) D cA oc B) (a0 : Nat) (a2 : Int32) (a3 : Nat) (a4 : Int32) (a5 : Int32) (w : gW) {ls : Array Slot} {H : Heap} {locs : List Loc} (hl : lv_has ls 6 [(0, .ref (B + a0)), (2, .int a2), (3, .ref (B + a3)), (4, .int a4), (5, .int a5)]) (hf : f_X_odds_l29 N a0 a2 a3 a4 a5 w = some (r, wz)) (hR : gRep D cA B w H) (hS : va_S (gA B) s.heap H locs) : W p l e ({ frames := 7, cells := 0, slots := 0, locals := 187 } : Room) s m args below meth c H locs 0 0 (MQ below (gQl D cA B r wz) args s 0 0 (gA B)) (F0 m 29 ls []) := by
  unfold f_X_odds_l29 at hf
  suffices hh : ∀ n : Nat, ∀ (a0 : Nat) (a2 : Int32) (a3 : Nat) (a4 : Int32) (a5 : Int32) (w : gW) (ls : Array Slot) (H : Heap) (locs : List Loc), itr (fun rec (q : Nat × Int32 × Nat × Int32 × Int32 × gW) => f_X_odds_b29 N rec q.1 q.2.1 q.2.2.1 q.2.2.2.1 q.2.2.2.2.1 q.2.2.2.2.2) n (a0, a2, a3, a4, a5, w) = some (r, wz) → lv_has ls 6 [(0, .ref (B + a0)), (2, .int a2), (3, .ref (B + a3)), (4, .int a4), (5, .int a5)] → gRep D cA B w H → va_S (gA B) s.heap H locs → W p l e ({ frames := 7, cells := 0, slots := 0, locals := 187 } : Room) s m args below meth c H locs 0 0 (MQ below (gQl D cA B r wz) args s 0 0 (gA B)) (F0 m 29 ls []) from hh N a0 a2 a3 a4 a5 w ls H locs hf hl hR hS
  intro n
  induction n with
  | zero => intro a0 a2 a3 a4 a5 w ls H locs hf; cases hf
  | succ n ihn =>
    intro a0 a2 a3 a4 a5 w ls H locs hf hl hR hS
    exact c_X_odds_b29 (N := N) ihn C a0 a2 a3 a4 a5 w hl ((itr_s _ _ _).symm.trans hf) hR hS
set_option maxRecDepth 20000 in
theorem c_X_odds_b0 {r : Int64} {wz : gW} (C : gC p s m args meth c "RidCoppers" b_X_odds 6 (some .long) D cA oc B) (a0 : Nat) (a1 : Int32) (a2 : Int32) (w : gW) {ls : Array Slot} {H : Heap} {locs : List Loc} (hl : lv_has ls 6 [(0, .ref (B + a0)), (1, .int a1), (2, .int a2)]) (hf : f_X_odds_b0 N a0 a1 a2 w = some (r, wz)) (hR : gRep D cA B w H) (hS : va_S (gA B) s.heap H locs) : W p l e ({ frames := 7, cells := 0, slots := 0, locals := 187 } : Room) s m args below meth c H locs 0 0 (MQ below (gQl D cA B r wz) args s 0 0 (gA B)) (F0 m 0 ls []) := by
  obtain ⟨hx, hb, hml, hown, hts, hr, hlocks, hK, hBs⟩ := id C
  unfold f_X_odds_b0 at hf
  refine lv_aload_n hx hb d_X_odds_0 rfl (lv_at hl 0 rfl) ?_
  refine lv_iload_n hx hb d_X_odds_1 rfl (lv_at hl 1 rfl) ?_
  have ⟨h4, hf⟩ := gd_e hf
  have ⟨x1, w2, h3, hf⟩ := kl_e hf
  refine g_kr0 (g_rV (As := [.int a1]) (rest := []) hx hb hml hown hts hK hR hS (c_X_payerAt l D cA oc B N a0 a1 w h3) I_X_payerAt m_374 mp_0 (gRecv hK hR (ci := 11) rfl h4) rfl rfl (Nat.le_of_ble_eq_true rfl) hl.1 ⟨Nat.le_of_ble_eq_true rfl, Nat.le_of_ble_eq_true rfl⟩ ⟨Nat.le_of_ble_eq_true rfl, Nat.le_of_ble_eq_true rfl⟩ d_X_odds_2) hS (fun H locs hR hS => ?_)
  rcases x1 with _ | x5
  · have hf := nr_n hf
    refine lv_astore_nN (lv' := [(3, .null), (0, .ref (B + a0)), (1, .int a1), (2, .int a2)]) hx hb d_X_odds_5 rfl hl (by decide) rfl (fun ls hl => ?_)
    refine lv_aload_nN hx hb d_X_odds_6 rfl (lv_at hl 0 rfl) ?_
    refine lv_ifnullN (tgt := 19) hx hb d_X_odds_7 (by decide) ?_
    refine lv_ldc2 hx hb hown (hts _ m_821) d_X_odds_19 ?_
    exact g_lret hx hb hr hlocks hR hS hf d_X_odds_22
  have hf := nr_s hf
  refine lv_astore_n (lv' := [(3, .ref (B + x5)), (0, .ref (B + a0)), (1, .int a1), (2, .int a2)]) hx hb d_X_odds_5 rfl hl (by decide) rfl (fun ls hl => ?_)
  refine lv_aload_n hx hb d_X_odds_6 rfl (lv_at hl 0 rfl) ?_
  refine lv_ifnull hx hb d_X_odds_7 ?_
  refine lv_iload_n hx hb d_X_odds_10 rfl (lv_at hl 3 rfl) ?_
  refine lv_if_lt (tgt := 19) hx hb d_X_odds_11 (by decide) (fun hc => ?_) (fun hc => ?_)
  · have hf := cd_t hc hf
    refine lv_ldc2 hx hb hown (hts _ m_821) d_X_odds_19 ?_
    exact g_lret hx hb hr hlocks hR hS hf d_X_odds_22
  have hf := cd_f hc hf
  refine lv_iload_n hx hb d_X_odds_14 rfl (lv_at hl 3 rfl) ?_
  refine lv_iconst (v := 1) hx hb d_X_odds_15 (by decide) ?_
  refine lv_icmp_le (tgt := 23) hx hb d_X_odds_16 (by decide) (fun hc => ?_) (fun hc => ?_)
  · have hf := cd_t hc hf
    refine lv_iconst (v := 0) hx hb d_X_odds_23 (by decide) ?_
    refine lv_istore (lv' := [(4, .int 0), (3, .ref (B + x5)), (0, .ref (B + a0)), (1, .int a1), (2, .int a2)]) hx hb d_X_odds_24 hl (by decide) rfl (fun ls hl => ?_)
    refine lv_iconst (v := 1) hx hb d_X_odds_26 (by decide) ?_
    refine lv_istore (lv' := [(5, .int 1), (4, .int 0), (3, .ref (B + x5)), (0, .ref (B + a0)), (1, .int a1), (2, .int a2)]) hx hb d_X_odds_27 hl (by decide) rfl (fun ls hl => ?_)
    exact c_X_odds_l29 C a0 a2 x5 0 1 w2 (lv_sub hl [3, 5, 2, 1, 0] rfl) hf hR hS
  have hf := cd_f hc hf
  refine lv_ldc2 hx hb hown (hts _ m_821) d_X_odds_19 ?_
  exact g_lret hx hb hr hlocks hR hS hf d_X_odds_22
theorem c_X_odds (l : Launch) (D : va_G) (cA : Nat → ClassId) (oc : gO) (B N : Nat) (a0 : Nat) (a1 : Int32) (a2 : Int32) (w : gW) {wz : gW} {r : Int64} (hf : f_X_odds N a0 a1 a2 w = some (r, wz)) : Met l y_X_odds (Cond.code y_X_odds b_X_odds 6 (some .long) :: lw_good) ({ frames := 7, cells := 0, slots := 0, locals := 187 } : Room) (gPre D cA oc B [.ref (B + a0), .int a1, .int a2] w) (gQl D cA B r wz) 0 0 (gA B) := by
  refine Met.ofW (cc := b_X_odds) (maxL := 6) (ret := (some .long)) (by decide +kernel) rfl ?_
  intro p e s m args below meth c s₁ Bd hml hv
  obtain ⟨hargs, C, hR⟩ := gC.enter (l := l) rfl Bd hml hv
  subst hargs
  have hl := lv_entry ([.ref (B + a0), .int a1, .int a2]) (n := 6) (Nat.le_of_ble_eq_true rfl)
  rw [lg_entry_eq]
  generalize (lg_sl ([.ref (B + a0), .int a1, .int a2]) ++ List.replicate (6 - (lg_sl ([.ref (B + a0), .int a1, .int a2])).length) Slot.unset).toArray = ls at hl ⊢
  have hl : lv_has ls 6 [(0, .ref (B + a0)), (1, .int a1), (2, .int a2)] := hl
  exact c_X_odds_b0 C a0 a1 a2 w (lv_sub hl [0, 1, 2] rfl) hf hR va_S.rf
theorem d_X_mean_0 : decode b_X_mean 0 = .ok (.iload_n 1, 1) := by decide +kernel
theorem d_X_mean_1 : decode b_X_mean 1 = .ok (.invokestatic 146, 3) := by decide +kernel
theorem d_X_mean_4 : decode b_X_mean 4 = .ok (.ifCond .eq 12, 3) := by decide +kernel
theorem d_X_mean_7 : decode b_X_mean 7 = .ok (.iload_n 2, 1) := by decide +kernel
theorem d_X_mean_8 : decode b_X_mean 8 = .ok (.ifCond .lt 8, 3) := by decide +kernel
theorem d_X_mean_11 : decode b_X_mean 11 = .ok (.iload_n 2, 1) := by decide +kernel
theorem d_X_mean_12 : decode b_X_mean 12 = .ok (.iconst 1, 1) := by decide +kernel
theorem d_X_mean_13 : decode b_X_mean 13 = .ok (.if_icmp .le 7, 3) := by decide +kernel
theorem d_X_mean_16 : decode b_X_mean 16 = .ok (.ldc2_w 227, 3) := by decide +kernel
theorem d_X_mean_19 : decode b_X_mean 19 = .ok (.lreturn, 1) := by decide +kernel
theorem d_X_mean_20 : decode b_X_mean 20 = .ok (.iconst 0, 1) := by decide +kernel
theorem d_X_mean_21 : decode b_X_mean 21 = .ok (.istore_n 3, 1) := by decide +kernel
theorem d_X_mean_22 : decode b_X_mean 22 = .ok (.iconst 0, 1) := by decide +kernel
theorem d_X_mean_23 : decode b_X_mean 23 = .ok (.istore 4, 2) := by decide +kernel
theorem d_X_mean_25 : decode b_X_mean 25 = .ok (.iconst 0, 1) := by decide +kernel
theorem d_X_mean_26 : decode b_X_mean 26 = .ok (.istore 5, 2) := by decide +kernel
theorem d_X_mean_28 : decode b_X_mean 28 = .ok (.iload 5, 2) := by decide +kernel
theorem d_X_mean_30 : decode b_X_mean 30 = .ok (.aload_n 0, 1) := by decide +kernel
theorem d_X_mean_31 : decode b_X_mean 31 = .ok (.getfield 23, 3) := by decide +kernel
theorem d_X_mean_34 : decode b_X_mean 34 = .ok (.getfield 81, 3) := by decide +kernel
theorem d_X_mean_37 : decode b_X_mean 37 = .ok (.if_icmp .ge 47, 3) := by decide +kernel
theorem d_X_mean_40 : decode b_X_mean 40 = .ok (.aload_n 0, 1) := by decide +kernel
theorem d_X_mean_41 : decode b_X_mean 41 = .ok (.getfield 40, 3) := by decide +kernel
theorem d_X_mean_44 : decode b_X_mean 44 = .ok (.aload_n 0, 1) := by decide +kernel
theorem d_X_mean_45 : decode b_X_mean 45 = .ok (.getfield 23, 3) := by decide +kernel
theorem d_X_mean_48 : decode b_X_mean 48 = .ok (.aload_n 0, 1) := by decide +kernel
theorem d_X_mean_49 : decode b_X_mean 49 = .ok (.getfield 23, 3) := by decide +kernel
theorem d_X_mean_52 : decode b_X_mean 52 = .ok (.getfield 84, 3) := by decide +kernel
theorem d_X_mean_55 : decode b_X_mean 55 = .ok (.iload 5, 2) := by decide +kernel
theorem d_X_mean_57 : decode b_X_mean 57 = .ok (.aaload, 1) := by decide +kernel
theorem d_X_mean_58 : decode b_X_mean 58 = .ok (.iload_n 1, 1) := by decide +kernel
theorem d_X_mean_59 : decode b_X_mean 59 = .ok (.invokevirtual 149, 3) := by decide +kernel
theorem d_X_mean_62 : decode b_X_mean 62 = .ok (.ifCond .eq 16, 3) := by decide +kernel
theorem d_X_mean_65 : decode b_X_mean 65 = .ok (.iload_n 3, 1) := by decide +kernel
theorem d_X_mean_66 : decode b_X_mean 66 = .ok (.aload_n 0, 1) := by decide +kernel
theorem d_X_mean_67 : decode b_X_mean 67 = .ok (.getfield 40, 3) := by decide +kernel
theorem d_X_mean_70 : decode b_X_mean 70 = .ok (.getfield 156, 3) := by decide +kernel
theorem d_X_mean_73 : decode b_X_mean 73 = .ok (.iadd, 1) := by decide +kernel
theorem d_X_mean_74 : decode b_X_mean 74 = .ok (.istore_n 3, 1) := by decide +kernel
theorem d_X_mean_75 : decode b_X_mean 75 = .ok (.iinc 4 1, 3) := by decide +kernel
theorem d_X_mean_78 : decode b_X_mean 78 = .ok (.iinc 5 1, 3) := by decide +kernel
theorem d_X_mean_81 : decode b_X_mean 81 = .ok (.goto (-53), 3) := by decide +kernel
theorem d_X_mean_84 : decode b_X_mean 84 = .ok (.iload 4, 2) := by decide +kernel
theorem d_X_mean_86 : decode b_X_mean 86 = .ok (.ifCond .ne 9, 3) := by decide +kernel
theorem d_X_mean_89 : decode b_X_mean 89 = .ok (.ldc2_w 227, 3) := by decide +kernel
theorem d_X_mean_92 : decode b_X_mean 92 = .ok (.goto 10, 3) := by decide +kernel
theorem d_X_mean_95 : decode b_X_mean 95 = .ok (.iload_n 3, 1) := by decide +kernel
theorem d_X_mean_96 : decode b_X_mean 96 = .ok (.iload 4, 2) := by decide +kernel
theorem d_X_mean_98 : decode b_X_mean 98 = .ok (.iload_n 2, 1) := by decide +kernel
theorem d_X_mean_99 : decode b_X_mean 99 = .ok (.invokestatic 229, 3) := by decide +kernel
theorem d_X_mean_102 : decode b_X_mean 102 = .ok (.lreturn, 1) := by decide +kernel
set_option maxRecDepth 20000 in
theorem c_X_mean_b28 {r : Int64} {wz : gW} {rec28 : Nat × Int32 × Int32 × Int32 × Int32 × Int32 × gW → Option (Int64 × gW)} (ih28 : ∀ (a0 : Nat) (a1 : Int32) (a2 : Int32) (a3 : Int32) (a4 : Int32) (a5 : Int32) (w : gW) (ls : Array Slot) (H : Heap) (locs : List Loc), rec28 (a0, a1, a2, a3, a4, a5, w) = some (r, wz) → lv_has ls 6 [(0, .ref (B + a0)), (1, .int a1), (2, .int a2), (3, .int a3), (4, .int a4), (5, .int a5)] → gRep D cA B w H → va_S (gA B) s.heap H locs → W p l e ({ frames := 7, cells := 0, slots := 0, locals := 193 } : Room) s m args below meth c H locs 0 0 (MQ below (gQl D cA B r wz) args s 0 0 (gA B)) (F0 m 28 ls [])) (C : gC p s m args meth c "RidCoppers" b_X_mean 6 (some .long) D cA oc B) (a0 : Nat) (a1 : Int32) (a2 : Int32) (a3 : Int32) (a4 : Int32) (a5 : Int32) (w : gW) {ls : Array Slot} {H : Heap} {locs : List Loc} (hl : lv_has ls 6 [(0, .ref (B + a0)), (1, .int a1), (2, .int a2), (3, .int a3), (4, .int a4), (5, .int a5)]) (hf : f_X_mean_b28 N rec28 a0 a1 a2 a3 a4 a5 w = some (r, wz)) (hR : gRep D cA B w H) (hS : va_S (gA B) s.heap H locs) : W p l e ({ frames := 7, cells := 0, slots := 0, locals := 193 } : Room) s m args below meth c H locs 0 0 (MQ below (gQl D cA B r wz) args s 0 0 (gA B)) (F0 m 28 ls []) := by
  obtain ⟨hx, hb, hml, hown, hts, hr, hlocks, hK, hBs⟩ := id C
  unfold f_X_mean_b28 at hf
  refine lv_iload hx hb d_X_mean_28 (lv_at hl 5 rfl) ?_
  refine lv_aload_n hx hb d_X_mean_30 rfl (lv_at hl 0 rfl) ?_
  have ⟨h4, hf⟩ := gd_e hf
  have ⟨x5, h6, hf⟩ := rr_e hf
  refine g_getR hx hb hts hown hK hR fl_X_23 (fun _ => rfl) h4 h6 d_X_mean_31 ?_
  have ⟨h7, hf⟩ := gd_e hf
  refine g_getI hx hb hts hown hK hR fl_X_81 (fun _ => rfl) h7 d_X_mean_34 ?_
  refine g_nI hf (fun x8 hf => ?_)
  refine lv_icmp_ge (tgt := 84) hx hb d_X_mean_37 (by decide) (fun hc => ?_) (fun hc => ?_)
  · have hf := cd_t hc hf
    refine lv_iload hx hb d_X_mean_84 (lv_at hl 4 rfl) ?_
    refine lv_if_ne (tgt := 95) hx hb d_X_mean_86 (by decide) (fun hc => ?_) (fun hc => ?_)
    · have hf := cd_f hc hf
      refine lv_iload_n hx hb d_X_mean_95 rfl (lv_at hl 3 rfl) ?_
      refine lv_iload hx hb d_X_mean_96 (lv_at hl 4 rfl) ?_
      refine lv_iload_n hx hb d_X_mean_98 rfl (lv_at hl 2 rfl) ?_
      have ⟨x9, w10, h11, hf⟩ := kl_e hf
      refine g_kl0 (g_rS (As := [.int a3, .int a4, .int a2]) (rest := []) hx hb hml hown hts hK hR hS (c_X_partOfFraction l D cA oc B N a3 a4 a2 w h11) I_X_partOfFraction m_822 rfl rfl (Nat.le_of_ble_eq_true rfl) hl.1 ⟨Nat.le_of_ble_eq_true rfl, Nat.le_of_ble_eq_true rfl⟩ ⟨Nat.le_of_ble_eq_true rfl, Nat.le_of_ble_eq_true rfl⟩ d_X_mean_99) hS (fun H locs hR hS => ?_)
      exact g_lret hx hb hr hlocks hR hS hf d_X_mean_102
    have hf := cd_t hc hf
    refine lv_ldc2 hx hb hown (hts _ m_821) d_X_mean_89 ?_
    refine lv_goto (tgt := 102) hx hb d_X_mean_92 (by decide) ?_
    exact g_lret hx hb hr hlocks hR hS hf d_X_mean_102
  have hf := cd_f hc hf
  refine lv_aload_n hx hb d_X_mean_40 rfl (lv_at hl 0 rfl) ?_
  have ⟨x12, h13, hf⟩ := rr_e hf
  refine g_getR hx hb hts hown hK hR fl_X_40 (fun _ => rfl) h4 h13 d_X_mean_41 ?_
  refine lv_aload_n hx hb d_X_mean_44 rfl (lv_at hl 0 rfl) ?_
  refine g_getR hx hb hts hown hK hR fl_X_23 (fun _ => rfl) h4 h6 d_X_mean_45 ?_
  refine lv_aload_n hx hb d_X_mean_48 rfl (lv_at hl 0 rfl) ?_
  refine g_getR hx hb hts hown hK hR fl_X_23 (fun _ => rfl) h4 h6 d_X_mean_49 ?_
  have ⟨x14, h15, hf⟩ := rr_e hf
  refine g_getR hx hb hts hown hK hR fl_X_84 (fun _ => rfl) h7 h15 d_X_mean_52 ?_
  refine lv_iload hx hb d_X_mean_55 (lv_at hl 5 rfl) ?_
  have ⟨h16, hf⟩ := gd_e hf
  have ⟨h17, hf⟩ := gd_e hf
  have ⟨x18, h19, hf⟩ := rr_e hf
  refine g_aald hx hb hK hR (by decide) rfl (fun _ _ => rfl) h16 h17 h19 d_X_mean_57 ?_
  refine lv_iload_n hx hb d_X_mean_58 rfl (lv_at hl 1 rfl) ?_
  have ⟨h23, hf⟩ := gd_e hf
  have ⟨x20, w21, h22, hf⟩ := kl_e hf
  refine g_ki0 (g_rV (As := [.ref (B + x5), .ref (B + x18), .int a1]) (rest := []) hx hb hml hown hts hK hR hS (c_Pm_choose l D cA oc B N x12 x5 x18 a1 w h22) I_Pm_choose m_618 m_620 (gRecv hK hR (ci := 10) rfl h23) rfl rfl (Nat.le_of_ble_eq_true rfl) hl.1 ⟨Nat.le_of_ble_eq_true rfl, Nat.le_of_ble_eq_true rfl⟩ ⟨Nat.le_of_ble_eq_true rfl, Nat.le_of_ble_eq_true rfl⟩ d_X_mean_59) hS (fun H locs hR hS => ?_)
  refine lv_if_eq (tgt := 78) hx hb d_X_mean_62 (by decide) (fun hc => ?_) (fun hc => ?_)
  · have hf := cd_t hc hf
    refine g_iinc (lv' := fun x24 => [(5, .int x24), (0, .ref (B + a0)), (1, .int a1), (2, .int a2), (3, .int a3), (4, .int a4)]) hf hx hb d_X_mean_78 hl (k := 5) rfl (by decide) (by decide) (fun _ => rfl) (fun x24 ls hf hl => ?_)
    refine lv_goto (tgt := 28) hx hb d_X_mean_81 (by decide) ?_
    exact ih28 a0 a1 a2 a3 a4 x24 w21 _ _ _ hf (lv_sub hl [1, 2, 3, 4, 5, 0] rfl) hR hS
  have hf := cd_f hc hf
  refine lv_iload_n hx hb d_X_mean_65 rfl (lv_at hl 3 rfl) ?_
  refine lv_aload_n hx hb d_X_mean_66 rfl (lv_at hl 0 rfl) ?_
  have ⟨h25, hf⟩ := gd_e hf
  have ⟨x26, h27, hf⟩ := rr_e hf
  refine g_getR hx hb hts hown hK hR fl_X_40 (fun _ => rfl) h25 h27 d_X_mean_67 ?_
  have ⟨h28, hf⟩ := gd_e hf
  refine g_getI hx hb hts hown hK hR fl_X_156 (fun _ => rfl) h28 d_X_mean_70 ?_
  refine g_nI hf (fun x29 hf => ?_)
  refine lv_iadd hx hb d_X_mean_73 ?_
  refine g_nI hf (fun x30 hf => ?_)
  refine lv_istore_n (lv' := [(3, .int x30), (0, .ref (B + a0)), (1, .int a1), (2, .int a2), (4, .int a4), (5, .int a5)]) hx hb d_X_mean_74 rfl hl (by decide) rfl (fun ls hl => ?_)
  refine g_iinc (lv' := fun x31 => [(4, .int x31), (3, .int x30), (0, .ref (B + a0)), (1, .int a1), (2, .int a2), (5, .int a5)]) hf hx hb d_X_mean_75 hl (k := 4) rfl (by decide) (by decide) (fun _ => rfl) (fun x31 ls hf hl => ?_)
  refine g_iinc (lv' := fun x32 => [(5, .int x32), (4, .int x31), (3, .int x30), (0, .ref (B + a0)), (1, .int a1), (2, .int a2)]) hf hx hb d_X_mean_78 hl (k := 5) rfl (by decide) (by decide) (fun _ => rfl) (fun x32 ls hf hl => ?_)
  refine lv_goto (tgt := 28) hx hb d_X_mean_81 (by decide) ?_
  exact ih28 a0 a1 a2 x30 x31 x32 w21 _ _ _ hf (lv_sub hl [3, 4, 5, 2, 1, 0] rfl) hR hS
theorem c_X_mean_l28 {r : Int64} {wz : gW} (C : gC p s m args meth c "RidCoppers" b_X_mean 6 (some .long) D cA oc B) (a0 : Nat) (a1 : Int32) (a2 : Int32) (a3 : Int32) (a4 : Int32) (a5 : Int32) (w : gW) {ls : Array Slot} {H : Heap} {locs : List Loc} (hl : lv_has ls 6 [(0, .ref (B + a0)), (1, .int a1), (2, .int a2), (3, .int a3), (4, .int a4), (5, .int a5)]) (hf : f_X_mean_l28 N a0 a1 a2 a3 a4 a5 w = some (r, wz)) (hR : gRep D cA B w H) (hS : va_S (gA B) s.heap H locs) : W p l e ({ frames := 7, cells := 0, slots := 0, locals := 193 } : Room) s m args below meth c H locs 0 0 (MQ below (gQl D cA B r wz) args s 0 0 (gA B)) (F0 m 28 ls []) := by
  unfold f_X_mean_l28 at hf
  suffices hh : ∀ n : Nat, ∀ (a0 : Nat) (a1 : Int32) (a2 : Int32) (a3 : Int32) (a4 : Int32) (a5 : Int32) (w : gW) (ls : Array Slot) (H : Heap) (locs : List Loc), itr (fun rec (q : Nat × Int32 × Int32 × Int32 × Int32 × Int32 × gW) => f_X_mean_b28 N rec q.1 q.2.1 q.2.2.1 q.2.2.2.1 q.2.2.2.2.1 q.2.2.2.2.2.1 q.2.2.2.2.2.2) n (a0, a1, a2, a3, a4, a5, w) = some (r, wz) → lv_has ls 6 [(0, .ref (B + a0)), (1, .int a1), (2, .int a2), (3, .int a3), (4, .int a4), (5, .int a5)] → gRep D cA B w H → va_S (gA B) s.heap H locs → W p l e ({ frames := 7, cells := 0, slots := 0, locals := 193 } : Room) s m args below meth c H locs 0 0 (MQ below (gQl D cA B r wz) args s 0 0 (gA B)) (F0 m 28 ls []) from hh N a0 a1 a2 a3 a4 a5 w ls H locs hf hl hR hS
  intro n
  induction n with
  | zero => intro a0 a1 a2 a3 a4 a5 w ls H locs hf; cases hf
  | succ n ihn =>
    intro a0 a1 a2 a3 a4 a5 w ls H locs hf hl hR hS
    exact c_X_mean_b28 (N := N) ihn C a0 a1 a2 a3 a4 a5 w hl ((itr_s _ _ _).symm.trans hf) hR hS
set_option maxRecDepth 20000 in
theorem c_X_mean_b0 {r : Int64} {wz : gW} (C : gC p s m args meth c "RidCoppers" b_X_mean 6 (some .long) D cA oc B) (a0 : Nat) (a1 : Int32) (a2 : Int32) (w : gW) {ls : Array Slot} {H : Heap} {locs : List Loc} (hl : lv_has ls 6 [(0, .ref (B + a0)), (1, .int a1), (2, .int a2)]) (hf : f_X_mean_b0 N a0 a1 a2 w = some (r, wz)) (hR : gRep D cA B w H) (hS : va_S (gA B) s.heap H locs) : W p l e ({ frames := 7, cells := 0, slots := 0, locals := 193 } : Room) s m args below meth c H locs 0 0 (MQ below (gQl D cA B r wz) args s 0 0 (gA B)) (F0 m 0 ls []) := by
  obtain ⟨hx, hb, hml, hown, hts, hr, hlocks, hK, hBs⟩ := id C
  unfold f_X_mean_b0 at hf
  refine lv_iload_n hx hb d_X_mean_0 rfl (lv_at hl 1 rfl) ?_
  have ⟨x1, w2, h3, hf⟩ := kl_e hf
  refine g_ki0 (g_rS (As := [.int a1]) (rest := []) hx hb hml hown hts hK hR hS (c_X_isPrice l D cA oc B N a1 w h3) I_X_isPrice m_615 rfl rfl (Nat.le_of_ble_eq_true rfl) hl.1 ⟨Nat.le_of_ble_eq_true rfl, Nat.le_of_ble_eq_true rfl⟩ ⟨Nat.le_of_ble_eq_true rfl, Nat.le_of_ble_eq_true rfl⟩ d_X_mean_1) hS (fun H locs hR hS => ?_)
  refine lv_if_eq (tgt := 16) hx hb d_X_mean_4 (by decide) (fun hc => ?_) (fun hc => ?_)
  · have hf := cd_t hc hf
    refine lv_ldc2 hx hb hown (hts _ m_821) d_X_mean_16 ?_
    exact g_lret hx hb hr hlocks hR hS hf d_X_mean_19
  have hf := cd_f hc hf
  refine lv_iload_n hx hb d_X_mean_7 rfl (lv_at hl 2 rfl) ?_
  refine lv_if_lt (tgt := 16) hx hb d_X_mean_8 (by decide) (fun hc => ?_) (fun hc => ?_)
  · have hf := cd_t hc hf
    refine lv_ldc2 hx hb hown (hts _ m_821) d_X_mean_16 ?_
    exact g_lret hx hb hr hlocks hR hS hf d_X_mean_19
  have hf := cd_f hc hf
  refine lv_iload_n hx hb d_X_mean_11 rfl (lv_at hl 2 rfl) ?_
  refine lv_iconst (v := 1) hx hb d_X_mean_12 (by decide) ?_
  refine lv_icmp_le (tgt := 20) hx hb d_X_mean_13 (by decide) (fun hc => ?_) (fun hc => ?_)
  · have hf := cd_t hc hf
    refine lv_iconst (v := 0) hx hb d_X_mean_20 (by decide) ?_
    refine lv_istore_n (lv' := [(3, .int 0), (0, .ref (B + a0)), (1, .int a1), (2, .int a2)]) hx hb d_X_mean_21 rfl hl (by decide) rfl (fun ls hl => ?_)
    refine lv_iconst (v := 0) hx hb d_X_mean_22 (by decide) ?_
    refine lv_istore (lv' := [(4, .int 0), (3, .int 0), (0, .ref (B + a0)), (1, .int a1), (2, .int a2)]) hx hb d_X_mean_23 hl (by decide) rfl (fun ls hl => ?_)
    refine lv_iconst (v := 0) hx hb d_X_mean_25 (by decide) ?_
    refine lv_istore (lv' := [(5, .int 0), (4, .int 0), (3, .int 0), (0, .ref (B + a0)), (1, .int a1), (2, .int a2)]) hx hb d_X_mean_26 hl (by decide) rfl (fun ls hl => ?_)
    exact c_X_mean_l28 C a0 a1 a2 0 0 0 w2 (lv_sub hl [3, 4, 5, 2, 1, 0] rfl) hf hR hS
  have hf := cd_f hc hf
  refine lv_ldc2 hx hb hown (hts _ m_821) d_X_mean_16 ?_
  exact g_lret hx hb hr hlocks hR hS hf d_X_mean_19
theorem c_X_mean (l : Launch) (D : va_G) (cA : Nat → ClassId) (oc : gO) (B N : Nat) (a0 : Nat) (a1 : Int32) (a2 : Int32) (w : gW) {wz : gW} {r : Int64} (hf : f_X_mean N a0 a1 a2 w = some (r, wz)) : Met l y_X_mean (Cond.code y_X_mean b_X_mean 6 (some .long) :: lw_good) ({ frames := 7, cells := 0, slots := 0, locals := 193 } : Room) (gPre D cA oc B [.ref (B + a0), .int a1, .int a2] w) (gQl D cA B r wz) 0 0 (gA B) := by
  refine Met.ofW (cc := b_X_mean) (maxL := 6) (ret := (some .long)) (by decide +kernel) rfl ?_
  intro p e s m args below meth c s₁ Bd hml hv
  obtain ⟨hargs, C, hR⟩ := gC.enter (l := l) rfl Bd hml hv
  subst hargs
  have hl := lv_entry ([.ref (B + a0), .int a1, .int a2]) (n := 6) (Nat.le_of_ble_eq_true rfl)
  rw [lg_entry_eq]
  generalize (lg_sl ([.ref (B + a0), .int a1, .int a2]) ++ List.replicate (6 - (lg_sl ([.ref (B + a0), .int a1, .int a2])).length) Slot.unset).toArray = ls at hl ⊢
  have hl : lv_has ls 6 [(0, .ref (B + a0)), (1, .int a1), (2, .int a2)] := hl
  exact c_X_mean_b0 C a0 a1 a2 w (lv_sub hl [0, 1, 2] rfl) hf hR va_S.rf
theorem d_X_book_0 : decode b_X_book 0 = .ok (.iload_n 1, 1) := by decide +kernel
theorem d_X_book_1 : decode b_X_book 1 = .ok (.iconst (-1), 1) := by decide +kernel
theorem d_X_book_2 : decode b_X_book 2 = .ok (.if_icmp .ne 13, 3) := by decide +kernel
theorem d_X_book_5 : decode b_X_book 5 = .ok (.aload_n 0, 1) := by decide +kernel
theorem d_X_book_6 : decode b_X_book 6 = .ok (.getfield 23, 3) := by decide +kernel
theorem d_X_book_9 : decode b_X_book 9 = .ok (.iconst 0, 1) := by decide +kernel
theorem d_X_book_10 : decode b_X_book 10 = .ok (.putfield 233, 3) := by decide +kernel
theorem d_X_book_13 : decode b_X_book 13 = .ok (.iconst 0, 1) := by decide +kernel
theorem d_X_book_14 : decode b_X_book 14 = .ok (.ireturn, 1) := by decide +kernel
theorem d_X_book_15 : decode b_X_book 15 = .ok (.aload_n 0, 1) := by decide +kernel
theorem d_X_book_16 : decode b_X_book 16 = .ok (.iload_n 1, 1) := by decide +kernel
theorem d_X_book_17 : decode b_X_book 17 = .ok (.invokevirtual 92, 3) := by decide +kernel
theorem d_X_book_20 : decode b_X_book 20 = .ok (.ifnonnull 5, 3) := by decide +kernel
theorem d_X_book_23 : decode b_X_book 23 = .ok (.iconst (-1), 1) := by decide +kernel
theorem d_X_book_24 : decode b_X_book 24 = .ok (.ireturn, 1) := by decide +kernel
theorem d_X_book_25 : decode b_X_book 25 = .ok (.iload_n 2, 1) := by decide +kernel
theorem d_X_book_26 : decode b_X_book 26 = .ok (.invokestatic 146, 3) := by decide +kernel
theorem d_X_book_29 : decode b_X_book 29 = .ok (.ifCond .ne 6, 3) := by decide +kernel
theorem d_X_book_32 : decode b_X_book 32 = .ok (.bipush (-2), 2) := by decide +kernel
theorem d_X_book_34 : decode b_X_book 34 = .ok (.ireturn, 1) := by decide +kernel
theorem d_X_book_35 : decode b_X_book 35 = .ok (.aload_n 0, 1) := by decide +kernel
theorem d_X_book_36 : decode b_X_book 36 = .ok (.getfield 23, 3) := by decide +kernel
theorem d_X_book_39 : decode b_X_book 39 = .ok (.getfield 233, 3) := by decide +kernel
theorem d_X_book_42 : decode b_X_book 42 = .ok (.bipush 8, 2) := by decide +kernel
theorem d_X_book_44 : decode b_X_book 44 = .ok (.if_icmp .lt 6, 3) := by decide +kernel
theorem d_X_book_47 : decode b_X_book 47 = .ok (.bipush (-4), 2) := by decide +kernel
theorem d_X_book_49 : decode b_X_book 49 = .ok (.ireturn, 1) := by decide +kernel
theorem d_X_book_50 : decode b_X_book 50 = .ok (.aload_n 0, 1) := by decide +kernel
theorem d_X_book_51 : decode b_X_book 51 = .ok (.getfield 23, 3) := by decide +kernel
theorem d_X_book_54 : decode b_X_book 54 = .ok (.getfield 236, 3) := by decide +kernel
theorem d_X_book_57 : decode b_X_book 57 = .ok (.aload_n 0, 1) := by decide +kernel
theorem d_X_book_58 : decode b_X_book 58 = .ok (.getfield 23, 3) := by decide +kernel
theorem d_X_book_61 : decode b_X_book 61 = .ok (.getfield 233, 3) := by decide +kernel
theorem d_X_book_64 : decode b_X_book 64 = .ok (.iload_n 1, 1) := by decide +kernel
theorem d_X_book_65 : decode b_X_book 65 = .ok (.iastore, 1) := by decide +kernel
theorem d_X_book_66 : decode b_X_book 66 = .ok (.aload_n 0, 1) := by decide +kernel
theorem d_X_book_67 : decode b_X_book 67 = .ok (.getfield 23, 3) := by decide +kernel
theorem d_X_book_70 : decode b_X_book 70 = .ok (.getfield 239, 3) := by decide +kernel
theorem d_X_book_73 : decode b_X_book 73 = .ok (.aload_n 0, 1) := by decide +kernel
theorem d_X_book_74 : decode b_X_book 74 = .ok (.getfield 23, 3) := by decide +kernel
theorem d_X_book_77 : decode b_X_book 77 = .ok (.getfield 233, 3) := by decide +kernel
theorem d_X_book_80 : decode b_X_book 80 = .ok (.iload_n 2, 1) := by decide +kernel
theorem d_X_book_81 : decode b_X_book 81 = .ok (.iastore, 1) := by decide +kernel
theorem d_X_book_82 : decode b_X_book 82 = .ok (.aload_n 0, 1) := by decide +kernel
theorem d_X_book_83 : decode b_X_book 83 = .ok (.getfield 23, 3) := by decide +kernel
theorem d_X_book_86 : decode b_X_book 86 = .ok (.dup, 1) := by decide +kernel
theorem d_X_book_87 : decode b_X_book 87 = .ok (.getfield 233, 3) := by decide +kernel
theorem d_X_book_90 : decode b_X_book 90 = .ok (.iconst 1, 1) := by decide +kernel
theorem d_X_book_91 : decode b_X_book 91 = .ok (.iadd, 1) := by decide +kernel
theorem d_X_book_92 : decode b_X_book 92 = .ok (.putfield 233, 3) := by decide +kernel
theorem d_X_book_95 : decode b_X_book 95 = .ok (.aload_n 0, 1) := by decide +kernel
theorem d_X_book_96 : decode b_X_book 96 = .ok (.getfield 23, 3) := by decide +kernel
theorem d_X_book_99 : decode b_X_book 99 = .ok (.getfield 233, 3) := by decide +kernel
theorem d_X_book_102 : decode b_X_book 102 = .ok (.ireturn, 1) := by decide +kernel
set_option maxRecDepth 20000 in
theorem c_X_book_b0 {r : Int32} {wz : gW} (C : gC p s m args meth c "RidCoppers" b_X_book 3 (some .int) D cA oc B) (a0 : Nat) (a1 : Int32) (a2 : Int32) (w : gW) {ls : Array Slot} {H : Heap} {locs : List Loc} (hl : lv_has ls 3 [(0, .ref (B + a0)), (1, .int a1), (2, .int a2)]) (hf : f_X_book_b0 N a0 a1 a2 w = some (r, wz)) (hR : gRep D cA B w H) (hS : va_S (gA B) s.heap H locs) : W p l e ({ frames := 2, cells := 0, slots := 0, locals := 61 } : Room) s m args below meth c H locs 0 0 (MQ below (gQi D cA B r wz) args s 0 0 (gA B)) (F0 m 0 ls []) := by
  obtain ⟨hx, hb, hml, hown, hts, hr, hlocks, hK, hBs⟩ := id C
  unfold f_X_book_b0 at hf
  refine lv_iload_n hx hb d_X_book_0 rfl (lv_at hl 1 rfl) ?_
  refine lv_iconst (v := (-1)) hx hb d_X_book_1 (by decide) ?_
  refine lv_icmp_ne (tgt := 15) hx hb d_X_book_2 (by decide) (fun hc => ?_) (fun hc => ?_)
  · have hf := cd_f hc hf
    refine lv_aload_n hx hb d_X_book_15 rfl (lv_at hl 0 rfl) ?_
    refine lv_iload_n hx hb d_X_book_16 rfl (lv_at hl 1 rfl) ?_
    have ⟨h4, hf⟩ := gd_e hf
    have ⟨x1, w2, h3, hf⟩ := kl_e hf
    refine g_kr0 (g_rV (As := [.int a1]) (rest := []) hx hb hml hown hts hK hR hS (c_X_payerAt l D cA oc B N a0 a1 w h3) I_X_payerAt m_374 mp_0 (gRecv hK hR (ci := 11) rfl h4) rfl rfl (Nat.le_of_ble_eq_true rfl) hl.1 ⟨Nat.le_of_ble_eq_true rfl, Nat.le_of_ble_eq_true rfl⟩ ⟨Nat.le_of_ble_eq_true rfl, Nat.le_of_ble_eq_true rfl⟩ d_X_book_17) hS (fun H locs hR hS => ?_)
    rcases x1 with _ | x5
    · have hf := nr_n hf
      refine lv_ifnonnullN hx hb d_X_book_20 ?_
      refine lv_iconst (v := (-1)) hx hb d_X_book_23 (by decide) ?_
      exact g_iret hx hb hr hlocks hR hS hf rfl d_X_book_24
    have hf := nr_s hf
    refine lv_ifnonnull (tgt := 25) hx hb d_X_book_20 (by decide) ?_
    refine lv_iload_n hx hb d_X_book_25 rfl (lv_at hl 2 rfl) ?_
    have ⟨x7, w8, h9, hf⟩ := kl_e hf
    refine g_ki0 (g_rS (As := [.int a2]) (rest := []) hx hb hml hown hts hK hR hS (c_X_isPrice l D cA oc B N a2 w2 h9) I_X_isPrice m_615 rfl rfl (Nat.le_of_ble_eq_true rfl) hl.1 ⟨Nat.le_of_ble_eq_true rfl, Nat.le_of_ble_eq_true rfl⟩ ⟨Nat.le_of_ble_eq_true rfl, Nat.le_of_ble_eq_true rfl⟩ d_X_book_26) hS (fun H locs hR hS => ?_)
    refine lv_if_ne (tgt := 35) hx hb d_X_book_29 (by decide) (fun hc => ?_) (fun hc => ?_)
    · have hf := cd_f hc hf
      refine lv_aload_n hx hb d_X_book_35 rfl (lv_at hl 0 rfl) ?_
      have ⟨h10, hf⟩ := gd_e hf
      have ⟨x11, h12, hf⟩ := rr_e hf
      refine g_getR hx hb hts hown hK hR fl_X_23 (fun _ => rfl) h10 h12 d_X_book_36 ?_
      have ⟨h13, hf⟩ := gd_e hf
      refine g_getI hx hb hts hown hK hR fl_X_233 (fun _ => rfl) h13 d_X_book_39 ?_
      refine g_nI hf (fun x14 hf => ?_)
      refine lv_bipush (v := 8) hx hb d_X_book_42 (by decide) ?_
      refine lv_icmp_lt (tgt := 50) hx hb d_X_book_44 (by decide) (fun hc => ?_) (fun hc => ?_)
      · have hf := cd_t hc hf
        refine lv_aload_n hx hb d_X_book_50 rfl (lv_at hl 0 rfl) ?_
        refine g_getR hx hb hts hown hK hR fl_X_23 (fun _ => rfl) h10 h12 d_X_book_51 ?_
        have ⟨x15, h16, hf⟩ := rr_e hf
        refine g_getR hx hb hts hown hK hR fl_X_236 (fun _ => rfl) h13 h16 d_X_book_54 ?_
        refine lv_aload_n hx hb d_X_book_57 rfl (lv_at hl 0 rfl) ?_
        refine g_getR hx hb hts hown hK hR fl_X_23 (fun _ => rfl) h10 h12 d_X_book_58 ?_
        refine g_getI hx hb hts hown hK hR fl_X_233 (fun _ => rfl) h13 d_X_book_61 ?_
        refine g_nI hf (fun x17 hf => ?_)
        refine lv_iload_n hx hb d_X_book_64 rfl (lv_at hl 1 rfl) ?_
        have ⟨h18, hf⟩ := gd_e hf
        have ⟨h19, hf⟩ := gd_e hf
        refine g_iast hx hb hK hR hS h18 h19 d_X_book_65 (fun H locs hR hS => ?_)
        refine g_nW hf hR (fun w20 hf hR => ?_)
        refine lv_aload_n hx hb d_X_book_66 rfl (lv_at hl 0 rfl) ?_
        have ⟨h21, hf⟩ := gd_e hf
        have ⟨x22, h23, hf⟩ := rr_e hf
        refine g_getR hx hb hts hown hK hR fl_X_23 (fun _ => rfl) h21 h23 d_X_book_67 ?_
        have ⟨h24, hf⟩ := gd_e hf
        have ⟨x25, h26, hf⟩ := rr_e hf
        refine g_getR hx hb hts hown hK hR fl_X_239 (fun _ => rfl) h24 h26 d_X_book_70 ?_
        refine lv_aload_n hx hb d_X_book_73 rfl (lv_at hl 0 rfl) ?_
        refine g_getR hx hb hts hown hK hR fl_X_23 (fun _ => rfl) h21 h23 d_X_book_74 ?_
        refine g_getI hx hb hts hown hK hR fl_X_233 (fun _ => rfl) h24 d_X_book_77 ?_
        refine g_nI hf (fun x27 hf => ?_)
        refine lv_iload_n hx hb d_X_book_80 rfl (lv_at hl 2 rfl) ?_
        have ⟨h28, hf⟩ := gd_e hf
        have ⟨h29, hf⟩ := gd_e hf
        refine g_iast hx hb hK hR hS h28 h29 d_X_book_81 (fun H locs hR hS => ?_)
        refine g_nW hf hR (fun w30 hf hR => ?_)
        refine lv_aload_n hx hb d_X_book_82 rfl (lv_at hl 0 rfl) ?_
        have ⟨h31, hf⟩ := gd_e hf
        have ⟨x32, h33, hf⟩ := rr_e hf
        refine g_getR hx hb hts hown hK hR fl_X_23 (fun _ => rfl) h31 h33 d_X_book_83 ?_
        refine lv_dup hx hb d_X_book_86 rfl ?_
        have ⟨h34, hf⟩ := gd_e hf
        refine g_getI hx hb hts hown hK hR fl_X_233 (fun _ => rfl) h34 d_X_book_87 ?_
        refine g_nI hf (fun x35 hf => ?_)
        refine lv_iconst (v := 1) hx hb d_X_book_90 (by decide) ?_
        refine lv_iadd hx hb d_X_book_91 ?_
        refine g_nI hf (fun x36 hf => ?_)
        refine g_putI hx hb hts hown hK hR hS pf_X_233 (fun _ => rfl) rfl rfl h34 d_X_book_92 (fun H locs hR hS => ?_)
        refine g_nW hf hR (fun w37 hf hR => ?_)
        refine lv_aload_n hx hb d_X_book_95 rfl (lv_at hl 0 rfl) ?_
        have ⟨h38, hf⟩ := gd_e hf
        have ⟨x39, h40, hf⟩ := rr_e hf
        refine g_getR hx hb hts hown hK hR fl_X_23 (fun _ => rfl) h38 h40 d_X_book_96 ?_
        have ⟨h41, hf⟩ := gd_e hf
        refine g_getI hx hb hts hown hK hR fl_X_233 (fun _ => rfl) h41 d_X_book_99 ?_
        refine g_nI hf (fun x42 hf => ?_)
        exact g_iret hx hb hr hlocks hR hS hf rfl d_X_book_102
      have hf := cd_f hc hf
      refine lv_bipush (v := (-4)) hx hb d_X_book_47 (by decide) ?_
      exact g_iret hx hb hr hlocks hR hS hf rfl d_X_book_49
    have hf := cd_t hc hf
    refine lv_bipush (v := (-2)) hx hb d_X_book_32 (by decide) ?_
    exact g_iret hx hb hr hlocks hR hS hf rfl d_X_book_34
  have hf := cd_t hc hf
  refine lv_aload_n hx hb d_X_book_5 rfl (lv_at hl 0 rfl) ?_
  have ⟨h43, hf⟩ := gd_e hf
  have ⟨x44, h45, hf⟩ := rr_e hf
  refine g_getR hx hb hts hown hK hR fl_X_23 (fun _ => rfl) h43 h45 d_X_book_6 ?_
  refine lv_iconst (v := 0) hx hb d_X_book_9 (by decide) ?_
  have ⟨h46, hf⟩ := gd_e hf
  refine g_putI hx hb hts hown hK hR hS pf_X_233 (fun _ => rfl) rfl rfl h46 d_X_book_10 (fun H locs hR hS => ?_)
  refine g_nW hf hR (fun w47 hf hR => ?_)
  refine lv_iconst (v := 0) hx hb d_X_book_13 (by decide) ?_
  exact g_iret hx hb hr hlocks hR hS hf rfl d_X_book_14
theorem c_X_book (l : Launch) (D : va_G) (cA : Nat → ClassId) (oc : gO) (B N : Nat) (a0 : Nat) (a1 : Int32) (a2 : Int32) (w : gW) {wz : gW} {r : Int32} (hf : f_X_book N a0 a1 a2 w = some (r, wz)) : Met l y_X_book (Cond.code y_X_book b_X_book 3 (some .int) :: lw_good) ({ frames := 2, cells := 0, slots := 0, locals := 61 } : Room) (gPre D cA oc B [.ref (B + a0), .int a1, .int a2] w) (gQi D cA B r wz) 0 0 (gA B) := by
  refine Met.ofW (cc := b_X_book) (maxL := 3) (ret := (some .int)) (by decide +kernel) rfl ?_
  intro p e s m args below meth c s₁ Bd hml hv
  obtain ⟨hargs, C, hR⟩ := gC.enter (l := l) rfl Bd hml hv
  subst hargs
  have hl := lv_entry ([.ref (B + a0), .int a1, .int a2]) (n := 3) (Nat.le_of_ble_eq_true rfl)
  rw [lg_entry_eq]
  generalize (lg_sl ([.ref (B + a0), .int a1, .int a2]) ++ List.replicate (3 - (lg_sl ([.ref (B + a0), .int a1, .int a2])).length) Slot.unset).toArray = ls at hl ⊢
  have hl : lv_has ls 3 [(0, .ref (B + a0)), (1, .int a1), (2, .int a2)] := hl
  exact c_X_book_b0 C a0 a1 a2 w (lv_sub hl [0, 1, 2] rfl) hf hR va_S.rf
theorem d_X_looked_0 : decode b_X_looked 0 = .ok (.aload_n 0, 1) := by decide +kernel
theorem d_X_looked_1 : decode b_X_looked 1 = .ok (.getfield 30, 3) := by decide +kernel
theorem d_X_looked_4 : decode b_X_looked 4 = .ok (.aload_n 0, 1) := by decide +kernel
theorem d_X_looked_5 : decode b_X_looked 5 = .ok (.getfield 23, 3) := by decide +kernel
theorem d_X_looked_8 : decode b_X_looked 8 = .ok (.invokevirtual 201, 3) := by decide +kernel
theorem d_X_looked_11 : decode b_X_looked 11 = .ok (.iconst 0, 1) := by decide +kernel
theorem d_X_looked_12 : decode b_X_looked 12 = .ok (.istore_n 1, 1) := by decide +kernel
theorem d_X_looked_13 : decode b_X_looked 13 = .ok (.iload_n 1, 1) := by decide +kernel
theorem d_X_looked_14 : decode b_X_looked 14 = .ok (.aload_n 0, 1) := by decide +kernel
theorem d_X_looked_15 : decode b_X_looked 15 = .ok (.getfield 30, 3) := by decide +kernel
theorem d_X_looked_18 : decode b_X_looked 18 = .ok (.getfield 233, 3) := by decide +kernel
theorem d_X_looked_21 : decode b_X_looked 21 = .ok (.if_icmp .ge 60, 3) := by decide +kernel
theorem d_X_looked_24 : decode b_X_looked 24 = .ok (.aload_n 0, 1) := by decide +kernel
theorem d_X_looked_25 : decode b_X_looked 25 = .ok (.aload_n 0, 1) := by decide +kernel
theorem d_X_looked_26 : decode b_X_looked 26 = .ok (.getfield 30, 3) := by decide +kernel
theorem d_X_looked_29 : decode b_X_looked 29 = .ok (.getfield 236, 3) := by decide +kernel
theorem d_X_looked_32 : decode b_X_looked 32 = .ok (.iload_n 1, 1) := by decide +kernel
theorem d_X_looked_33 : decode b_X_looked 33 = .ok (.iaload, 1) := by decide +kernel
theorem d_X_looked_34 : decode b_X_looked 34 = .ok (.invokevirtual 92, 3) := by decide +kernel
theorem d_X_looked_37 : decode b_X_looked 37 = .ok (.astore_n 2, 1) := by decide +kernel
theorem d_X_looked_38 : decode b_X_looked 38 = .ok (.aload_n 2, 1) := by decide +kernel
theorem d_X_looked_39 : decode b_X_looked 39 = .ok (.ifnull 27, 3) := by decide +kernel
theorem d_X_looked_42 : decode b_X_looked 42 = .ok (.aload_n 0, 1) := by decide +kernel
theorem d_X_looked_43 : decode b_X_looked 43 = .ok (.getfield 40, 3) := by decide +kernel
theorem d_X_looked_46 : decode b_X_looked 46 = .ok (.aload_n 0, 1) := by decide +kernel
theorem d_X_looked_47 : decode b_X_looked 47 = .ok (.getfield 30, 3) := by decide +kernel
theorem d_X_looked_50 : decode b_X_looked 50 = .ok (.aload_n 2, 1) := by decide +kernel
theorem d_X_looked_51 : decode b_X_looked 51 = .ok (.aload_n 0, 1) := by decide +kernel
theorem d_X_looked_52 : decode b_X_looked 52 = .ok (.getfield 30, 3) := by decide +kernel
theorem d_X_looked_55 : decode b_X_looked 55 = .ok (.getfield 239, 3) := by decide +kernel
theorem d_X_looked_58 : decode b_X_looked 58 = .ok (.iload_n 1, 1) := by decide +kernel
theorem d_X_looked_59 : decode b_X_looked 59 = .ok (.iaload, 1) := by decide +kernel
theorem d_X_looked_60 : decode b_X_looked 60 = .ok (.invokevirtual 149, 3) := by decide +kernel
theorem d_X_looked_63 : decode b_X_looked 63 = .ok (.ifCond .ne 5, 3) := by decide +kernel
theorem d_X_looked_66 : decode b_X_looked 66 = .ok (.iload_n 1, 1) := by decide +kernel
theorem d_X_looked_67 : decode b_X_looked 67 = .ok (.ireturn, 1) := by decide +kernel
theorem d_X_looked_68 : decode b_X_looked 68 = .ok (.aload_n 0, 1) := by decide +kernel
theorem d_X_looked_69 : decode b_X_looked 69 = .ok (.getfield 40, 3) := by decide +kernel
theorem d_X_looked_72 : decode b_X_looked 72 = .ok (.invokevirtual 153, 3) := by decide +kernel
theorem d_X_looked_75 : decode b_X_looked 75 = .ok (.iinc 1 1, 3) := by decide +kernel
theorem d_X_looked_78 : decode b_X_looked 78 = .ok (.goto (-65), 3) := by decide +kernel
theorem d_X_looked_81 : decode b_X_looked 81 = .ok (.bipush (-5), 2) := by decide +kernel
theorem d_X_looked_83 : decode b_X_looked 83 = .ok (.ireturn, 1) := by decide +kernel
set_option maxRecDepth 20000 in
theorem c_X_looked_b13 {r : Int32} {wz : gW} {rec13 : Nat × Int32 × gW → Option (Int32 × gW)} (ih13 : ∀ (a0 : Nat) (a1 : Int32) (w : gW) (ls : Array Slot) (H : Heap) (locs : List Loc), rec13 (a0, a1, w) = some (r, wz) → lv_has ls 3 [(0, .ref (B + a0)), (1, .int a1)] → gRep D cA B w H → va_S (gA B) s.heap H locs → W p l e ({ frames := 7, cells := 0, slots := 0, locals := 193 } : Room) s m args below meth c H locs 0 0 (MQ below (gQi D cA B r wz) args s 0 0 (gA B)) (F0 m 13 ls [])) (C : gC p s m args meth c "RidCoppers" b_X_looked 3 (some .int) D cA oc B) (a0 : Nat) (a1 : Int32) (w : gW) {ls : Array Slot} {H : Heap} {locs : List Loc} (hl : lv_has ls 3 [(0, .ref (B + a0)), (1, .int a1)]) (hf : f_X_looked_b13 N rec13 a0 a1 w = some (r, wz)) (hR : gRep D cA B w H) (hS : va_S (gA B) s.heap H locs) : W p l e ({ frames := 7, cells := 0, slots := 0, locals := 193 } : Room) s m args below meth c H locs 0 0 (MQ below (gQi D cA B r wz) args s 0 0 (gA B)) (F0 m 13 ls []) := by
  obtain ⟨hx, hb, hml, hown, hts, hr, hlocks, hK, hBs⟩ := id C
  unfold f_X_looked_b13 at hf
  refine lv_iload_n hx hb d_X_looked_13 rfl (lv_at hl 1 rfl) ?_
  refine lv_aload_n hx hb d_X_looked_14 rfl (lv_at hl 0 rfl) ?_
  have ⟨h10, hf⟩ := gd_e hf
  have ⟨x11, h12, hf⟩ := rr_e hf
  refine g_getR hx hb hts hown hK hR fl_X_30 (fun _ => rfl) h10 h12 d_X_looked_15 ?_
  have ⟨h13, hf⟩ := gd_e hf
  refine g_getI hx hb hts hown hK hR fl_X_233 (fun _ => rfl) h13 d_X_looked_18 ?_
  refine g_nI hf (fun x14 hf => ?_)
  refine lv_icmp_ge (tgt := 81) hx hb d_X_looked_21 (by decide) (fun hc => ?_) (fun hc => ?_)
  · have hf := cd_t hc hf
    refine lv_bipush (v := (-5)) hx hb d_X_looked_81 (by decide) ?_
    exact g_iret hx hb hr hlocks hR hS hf rfl d_X_looked_83
  have hf := cd_f hc hf
  refine lv_aload_n hx hb d_X_looked_24 rfl (lv_at hl 0 rfl) ?_
  refine lv_aload_n hx hb d_X_looked_25 rfl (lv_at hl 0 rfl) ?_
  refine g_getR hx hb hts hown hK hR fl_X_30 (fun _ => rfl) h10 h12 d_X_looked_26 ?_
  have ⟨x15, h16, hf⟩ := rr_e hf
  refine g_getR hx hb hts hown hK hR fl_X_236 (fun _ => rfl) h13 h16 d_X_looked_29 ?_
  refine lv_iload_n hx hb d_X_looked_32 rfl (lv_at hl 1 rfl) ?_
  have ⟨h17, hf⟩ := gd_e hf
  have ⟨h18, hf⟩ := gd_e hf
  refine g_iald hx hb hK hR h17 h18 d_X_looked_33 ?_
  refine g_nI hf (fun x19 hf => ?_)
  have ⟨x20, w21, h22, hf⟩ := kl_e hf
  refine g_kr0 (g_rV (As := [.int x19]) (rest := []) hx hb hml hown hts hK hR hS (c_X_payerAt l D cA oc B N a0 x19 w h22) I_X_payerAt m_374 mp_0 (gRecv hK hR (ci := 11) rfl h10) rfl rfl (Nat.le_of_ble_eq_true rfl) hl.1 ⟨Nat.le_of_ble_eq_true rfl, Nat.le_of_ble_eq_true rfl⟩ ⟨Nat.le_of_ble_eq_true rfl, Nat.le_of_ble_eq_true rfl⟩ d_X_looked_34) hS (fun H locs hR hS => ?_)
  rcases x20 with _ | x23
  · have hf := nr_n hf
    refine lv_astore_nN (lv' := [(2, .null), (0, .ref (B + a0)), (1, .int a1)]) hx hb d_X_looked_37 rfl hl (by decide) rfl (fun ls hl => ?_)
    refine lv_aload_nN hx hb d_X_looked_38 rfl (lv_at hl 0 rfl) ?_
    refine lv_ifnullN (tgt := 66) hx hb d_X_looked_39 (by decide) ?_
    refine lv_iload_n hx hb d_X_looked_66 rfl (lv_at hl 2 rfl) ?_
    exact g_iret hx hb hr hlocks hR hS hf rfl d_X_looked_67
  have hf := nr_s hf
  refine lv_astore_n (lv' := [(2, .ref (B + x23)), (0, .ref (B + a0)), (1, .int a1)]) hx hb d_X_looked_37 rfl hl (by decide) rfl (fun ls hl => ?_)
  refine lv_aload_n hx hb d_X_looked_38 rfl (lv_at hl 0 rfl) ?_
  refine lv_ifnull hx hb d_X_looked_39 ?_
  refine lv_aload_n hx hb d_X_looked_42 rfl (lv_at hl 1 rfl) ?_
  have ⟨h25, hf⟩ := gd_e hf
  have ⟨x26, h27, hf⟩ := rr_e hf
  refine g_getR hx hb hts hown hK hR fl_X_40 (fun _ => rfl) h25 h27 d_X_looked_43 ?_
  refine lv_aload_n hx hb d_X_looked_46 rfl (lv_at hl 1 rfl) ?_
  have ⟨x28, h29, hf⟩ := rr_e hf
  refine g_getR hx hb hts hown hK hR fl_X_30 (fun _ => rfl) h25 h29 d_X_looked_47 ?_
  refine lv_aload_n hx hb d_X_looked_50 rfl (lv_at hl 0 rfl) ?_
  refine lv_aload_n hx hb d_X_looked_51 rfl (lv_at hl 1 rfl) ?_
  refine g_getR hx hb hts hown hK hR fl_X_30 (fun _ => rfl) h25 h29 d_X_looked_52 ?_
  have ⟨h30, hf⟩ := gd_e hf
  have ⟨x31, h32, hf⟩ := rr_e hf
  refine g_getR hx hb hts hown hK hR fl_X_239 (fun _ => rfl) h30 h32 d_X_looked_55 ?_
  refine lv_iload_n hx hb d_X_looked_58 rfl (lv_at hl 2 rfl) ?_
  have ⟨h33, hf⟩ := gd_e hf
  have ⟨h34, hf⟩ := gd_e hf
  refine g_iald hx hb hK hR h33 h34 d_X_looked_59 ?_
  refine g_nI hf (fun x35 hf => ?_)
  have ⟨h39, hf⟩ := gd_e hf
  have ⟨x36, w37, h38, hf⟩ := kl_e hf
  refine g_ki0 (g_rV (As := [.ref (B + x28), .ref (B + x23), .int x35]) (rest := []) hx hb hml hown hts hK hR hS (c_Pm_choose l D cA oc B N x26 x28 x23 x35 w21 h38) I_Pm_choose m_618 m_620 (gRecv hK hR (ci := 10) rfl h39) rfl rfl (Nat.le_of_ble_eq_true rfl) hl.1 ⟨Nat.le_of_ble_eq_true rfl, Nat.le_of_ble_eq_true rfl⟩ ⟨Nat.le_of_ble_eq_true rfl, Nat.le_of_ble_eq_true rfl⟩ d_X_looked_60) hS (fun H locs hR hS => ?_)
  refine lv_if_ne (tgt := 68) hx hb d_X_looked_63 (by decide) (fun hc => ?_) (fun hc => ?_)
  · have hf := cd_f hc hf
    refine lv_aload_n hx hb d_X_looked_68 rfl (lv_at hl 1 rfl) ?_
    have ⟨h40, hf⟩ := gd_e hf
    have ⟨x41, h42, hf⟩ := rr_e hf
    refine g_getR hx hb hts hown hK hR fl_X_40 (fun _ => rfl) h40 h42 d_X_looked_69 ?_
    have ⟨h46, hf⟩ := gd_e hf
    have ⟨x43, w44, h45, hf⟩ := kl_e hf
    refine g_kv0 (g_rV (As := []) (rest := []) hx hb hml hown hts hK hR hS (c_Pm_settle l D cA oc B N x41 w37 h45) I_Pm_settle m_715 m_717 (gRecv hK hR (ci := 10) rfl h46) rfl rfl (Nat.le_of_ble_eq_true rfl) hl.1 ⟨Nat.le_of_ble_eq_true rfl, Nat.le_of_ble_eq_true rfl⟩ ⟨Nat.le_of_ble_eq_true rfl, Nat.le_of_ble_eq_true rfl⟩ d_X_looked_72) hS (fun H locs hR hS => ?_)
    refine g_iinc (lv' := fun x47 => [(1, .int x47), (2, .ref (B + x23)), (0, .ref (B + a0))]) hf hx hb d_X_looked_75 hl (k := 2) rfl (by decide) (by decide) (fun _ => rfl) (fun x47 ls hf hl => ?_)
    refine lv_goto (tgt := 13) hx hb d_X_looked_78 (by decide) ?_
    exact ih13 a0 x47 w44 _ _ _ hf (lv_sub hl [2, 0] rfl) hR hS
  have hf := cd_t hc hf
  refine lv_iload_n hx hb d_X_looked_66 rfl (lv_at hl 2 rfl) ?_
  exact g_iret hx hb hr hlocks hR hS hf rfl d_X_looked_67
theorem c_X_looked_l13 {r : Int32} {wz : gW} (C : gC p s m args meth c "RidCoppers" b_X_looked 3 (some .int) D cA oc B) (a0 : Nat) (a1 : Int32) (w : gW) {ls : Array Slot} {H : Heap} {locs : List Loc} (hl : lv_has ls 3 [(0, .ref (B + a0)), (1, .int a1)]) (hf : f_X_looked_l13 N a0 a1 w = some (r, wz)) (hR : gRep D cA B w H) (hS : va_S (gA B) s.heap H locs) : W p l e ({ frames := 7, cells := 0, slots := 0, locals := 193 } : Room) s m args below meth c H locs 0 0 (MQ below (gQi D cA B r wz) args s 0 0 (gA B)) (F0 m 13 ls []) := by
  unfold f_X_looked_l13 at hf
  suffices hh : ∀ n : Nat, ∀ (a0 : Nat) (a1 : Int32) (w : gW) (ls : Array Slot) (H : Heap) (locs : List Loc), itr (fun rec (q : Nat × Int32 × gW) => f_X_looked_b13 N rec q.1 q.2.1 q.2.2) n (a0, a1, w) = some (r, wz) → lv_has ls 3 [(0, .ref (B + a0)), (1, .int a1)] → gRep D cA B w H → va_S (gA B) s.heap H locs → W p l e ({ frames := 7, cells := 0, slots := 0, locals := 193 } : Room) s m args below meth c H locs 0 0 (MQ below (gQi D cA B r wz) args s 0 0 (gA B)) (F0 m 13 ls []) from hh N a0 a1 w ls H locs hf hl hR hS
  intro n
  induction n with
  | zero => intro a0 a1 w ls H locs hf; cases hf
  | succ n ihn =>
    intro a0 a1 w ls H locs hf hl hR hS
    exact c_X_looked_b13 (N := N) ihn C a0 a1 w hl ((itr_s _ _ _).symm.trans hf) hR hS
set_option maxRecDepth 20000 in
theorem c_X_looked_b0 {r : Int32} {wz : gW} (C : gC p s m args meth c "RidCoppers" b_X_looked 3 (some .int) D cA oc B) (a0 : Nat) (w : gW) {ls : Array Slot} {H : Heap} {locs : List Loc} (hl : lv_has ls 3 [(0, .ref (B + a0))]) (hf : f_X_looked_b0 N a0 w = some (r, wz)) (hR : gRep D cA B w H) (hS : va_S (gA B) s.heap H locs) : W p l e ({ frames := 7, cells := 0, slots := 0, locals := 193 } : Room) s m args below meth c H locs 0 0 (MQ below (gQi D cA B r wz) args s 0 0 (gA B)) (F0 m 0 ls []) := by
  obtain ⟨hx, hb, hml, hown, hts, hr, hlocks, hK, hBs⟩ := id C
  unfold f_X_looked_b0 at hf
  refine lv_aload_n hx hb d_X_looked_0 rfl (lv_at hl 0 rfl) ?_
  have ⟨h1, hf⟩ := gd_e hf
  have ⟨x2, h3, hf⟩ := rr_e hf
  refine g_getR hx hb hts hown hK hR fl_X_30 (fun _ => rfl) h1 h3 d_X_looked_1 ?_
  refine lv_aload_n hx hb d_X_looked_4 rfl (lv_at hl 0 rfl) ?_
  have ⟨x4, h5, hf⟩ := rr_e hf
  refine g_getR hx hb hts hown hK hR fl_X_23 (fun _ => rfl) h1 h5 d_X_looked_5 ?_
  have ⟨h9, hf⟩ := gd_e hf
  have ⟨x6, w7, h8, hf⟩ := kl_e hf
  refine g_kv0 (g_rV (As := [.ref (B + x4)]) (rest := []) hx hb hml hown hts hK hR hS (c_Wo_become l D cA oc B N x2 x4 w h8) I_Wo_become m_766 m_768 (gRecv hK hR (ci := 9) rfl h9) rfl rfl (Nat.le_of_ble_eq_true rfl) hl.1 ⟨Nat.le_of_ble_eq_true rfl, Nat.le_of_ble_eq_true rfl⟩ ⟨Nat.le_of_ble_eq_true rfl, Nat.le_of_ble_eq_true rfl⟩ d_X_looked_8) hS (fun H locs hR hS => ?_)
  refine lv_iconst (v := 0) hx hb d_X_looked_11 (by decide) ?_
  refine lv_istore_n (lv' := [(1, .int 0), (0, .ref (B + a0))]) hx hb d_X_looked_12 rfl hl (by decide) rfl (fun ls hl => ?_)
  exact c_X_looked_l13 C a0 0 w7 (lv_sub hl [1, 0] rfl) hf hR hS
theorem c_X_looked (l : Launch) (D : va_G) (cA : Nat → ClassId) (oc : gO) (B N : Nat) (a0 : Nat) (w : gW) {wz : gW} {r : Int32} (hf : f_X_looked N a0 w = some (r, wz)) : Met l y_X_looked (Cond.code y_X_looked b_X_looked 3 (some .int) :: lw_good) ({ frames := 7, cells := 0, slots := 0, locals := 193 } : Room) (gPre D cA oc B [.ref (B + a0)] w) (gQi D cA B r wz) 0 0 (gA B) := by
  refine Met.ofW (cc := b_X_looked) (maxL := 3) (ret := (some .int)) (by decide +kernel) rfl ?_
  intro p e s m args below meth c s₁ Bd hml hv
  obtain ⟨hargs, C, hR⟩ := gC.enter (l := l) rfl Bd hml hv
  subst hargs
  have hl := lv_entry ([.ref (B + a0)]) (n := 3) (Nat.le_of_ble_eq_true rfl)
  rw [lg_entry_eq]
  generalize (lg_sl ([.ref (B + a0)]) ++ List.replicate (3 - (lg_sl ([.ref (B + a0)])).length) Slot.unset).toArray = ls at hl ⊢
  have hl : lv_has ls 3 [(0, .ref (B + a0))] := hl
  exact c_X_looked_b0 C a0 w (lv_sub hl [0] rfl) hf hR va_S.rf
theorem d_X_isTape_0 : decode b_X_isTape 0 = .ok (.iload_n 0, 1) := by decide +kernel
theorem d_X_isTape_1 : decode b_X_isTape 1 = .ok (.ifCond .lt 13, 3) := by decide +kernel
theorem d_X_isTape_4 : decode b_X_isTape 4 = .ok (.iload_n 0, 1) := by decide +kernel
theorem d_X_isTape_5 : decode b_X_isTape 5 = .ok (.bipush 6, 2) := by decide +kernel
theorem d_X_isTape_7 : decode b_X_isTape 7 = .ok (.if_icmp .ge 7, 3) := by decide +kernel
theorem d_X_isTape_10 : decode b_X_isTape 10 = .ok (.iconst 1, 1) := by decide +kernel
theorem d_X_isTape_11 : decode b_X_isTape 11 = .ok (.goto 4, 3) := by decide +kernel
theorem d_X_isTape_14 : decode b_X_isTape 14 = .ok (.iconst 0, 1) := by decide +kernel
theorem d_X_isTape_15 : decode b_X_isTape 15 = .ok (.ireturn, 1) := by decide +kernel
set_option maxRecDepth 20000 in
theorem c_X_isTape_b0 {r : Int32} {wz : gW} (C : gC p s m args meth c "RidCoppers" b_X_isTape 1 (some .boolean) D cA oc B) (a0 : Int32) (w : gW) {ls : Array Slot} {H : Heap} {locs : List Loc} (hl : lv_has ls 1 [(0, .int a0)]) (hf : f_X_isTape_b0 N a0 w = some (r, wz)) (hR : gRep D cA B w H) (hS : va_S (gA B) s.heap H locs) : W p l e ({ frames := 1, cells := 0, slots := 0, locals := 40 } : Room) s m args below meth c H locs 0 0 (MQ below (gQi D cA B r wz) args s 0 0 (gA B)) (F0 m 0 ls []) := by
  obtain ⟨hx, hb, hml, hown, hts, hr, hlocks, hK, hBs⟩ := id C
  unfold f_X_isTape_b0 at hf
  refine lv_iload_n hx hb d_X_isTape_0 rfl (lv_at hl 0 rfl) ?_
  refine lv_if_lt (tgt := 14) hx hb d_X_isTape_1 (by decide) (fun hc => ?_) (fun hc => ?_)
  · have hf := cd_t hc hf
    refine lv_iconst (v := 0) hx hb d_X_isTape_14 (by decide) ?_
    exact g_iret hx hb hr hlocks hR hS hf rfl d_X_isTape_15
  have hf := cd_f hc hf
  refine lv_iload_n hx hb d_X_isTape_4 rfl (lv_at hl 0 rfl) ?_
  refine lv_bipush (v := 6) hx hb d_X_isTape_5 (by decide) ?_
  refine lv_icmp_ge (tgt := 14) hx hb d_X_isTape_7 (by decide) (fun hc => ?_) (fun hc => ?_)
  · have hf := cd_t hc hf
    refine lv_iconst (v := 0) hx hb d_X_isTape_14 (by decide) ?_
    exact g_iret hx hb hr hlocks hR hS hf rfl d_X_isTape_15
  have hf := cd_f hc hf
  refine lv_iconst (v := 1) hx hb d_X_isTape_10 (by decide) ?_
  refine lv_goto (tgt := 15) hx hb d_X_isTape_11 (by decide) ?_
  exact g_iret hx hb hr hlocks hR hS hf rfl d_X_isTape_15
theorem c_X_isTape (l : Launch) (D : va_G) (cA : Nat → ClassId) (oc : gO) (B N : Nat) (a0 : Int32) (w : gW) {wz : gW} {r : Int32} (hf : f_X_isTape N a0 w = some (r, wz)) : Met l y_X_isTape (Cond.code y_X_isTape b_X_isTape 1 (some .boolean) :: lw_good) ({ frames := 1, cells := 0, slots := 0, locals := 40 } : Room) (gPre D cA oc B [.int a0] w) (gQi D cA B r wz) 0 0 (gA B) := by
  refine Met.ofW (cc := b_X_isTape) (maxL := 1) (ret := (some .boolean)) (by decide +kernel) rfl ?_
  intro p e s m args below meth c s₁ Bd hml hv
  obtain ⟨hargs, C, hR⟩ := gC.enter (l := l) rfl Bd hml hv
  subst hargs
  have hl := lv_entry ([.int a0]) (n := 1) (Nat.le_of_ble_eq_true rfl)
  rw [lg_entry_eq]
  generalize (lg_sl ([.int a0]) ++ List.replicate (1 - (lg_sl ([.int a0])).length) Slot.unset).toArray = ls at hl ⊢
  have hl : lv_has ls 1 [(0, .int a0)] := hl
  exact c_X_isTape_b0 C a0 w (lv_sub hl [0] rfl) hf hR va_S.rf
theorem d_X_judge_0 : decode b_X_judge 0 = .ok (.iload_n 1, 1) := by decide +kernel
theorem d_X_judge_1 : decode b_X_judge 1 = .ok (.invokestatic 242, 3) := by decide +kernel
theorem d_X_judge_4 : decode b_X_judge 4 = .ok (.ifCond .ne 5, 3) := by decide +kernel
theorem d_X_judge_7 : decode b_X_judge 7 = .ok (.iconst (-1), 1) := by decide +kernel
theorem d_X_judge_8 : decode b_X_judge 8 = .ok (.ireturn, 1) := by decide +kernel
theorem d_X_judge_9 : decode b_X_judge 9 = .ok (.aload_n 0, 1) := by decide +kernel
theorem d_X_judge_10 : decode b_X_judge 10 = .ok (.getfield 66, 3) := by decide +kernel
theorem d_X_judge_13 : decode b_X_judge 13 = .ok (.iload_n 1, 1) := by decide +kernel
theorem d_X_judge_14 : decode b_X_judge 14 = .ok (.iaload, 1) := by decide +kernel
theorem d_X_judge_15 : decode b_X_judge 15 = .ok (.iconst (-1), 1) := by decide +kernel
theorem d_X_judge_16 : decode b_X_judge 16 = .ok (.if_icmp .ne 6, 3) := by decide +kernel
theorem d_X_judge_19 : decode b_X_judge 19 = .ok (.bipush 100, 2) := by decide +kernel
theorem d_X_judge_21 : decode b_X_judge 21 = .ok (.ireturn, 1) := by decide +kernel
theorem d_X_judge_22 : decode b_X_judge 22 = .ok (.aload_n 0, 1) := by decide +kernel
theorem d_X_judge_23 : decode b_X_judge 23 = .ok (.getfield 66, 3) := by decide +kernel
theorem d_X_judge_26 : decode b_X_judge 26 = .ok (.iload_n 1, 1) := by decide +kernel
theorem d_X_judge_27 : decode b_X_judge 27 = .ok (.iaload, 1) := by decide +kernel
theorem d_X_judge_28 : decode b_X_judge 28 = .ok (.ifCond .eq 6, 3) := by decide +kernel
theorem d_X_judge_31 : decode b_X_judge 31 = .ok (.bipush (-12), 2) := by decide +kernel
theorem d_X_judge_33 : decode b_X_judge 33 = .ok (.ireturn, 1) := by decide +kernel
theorem d_X_judge_34 : decode b_X_judge 34 = .ok (.iload_n 2, 1) := by decide +kernel
theorem d_X_judge_35 : decode b_X_judge 35 = .ok (.ifCond .lt 13, 3) := by decide +kernel
theorem d_X_judge_38 : decode b_X_judge 38 = .ok (.iload_n 2, 1) := by decide +kernel
theorem d_X_judge_39 : decode b_X_judge 39 = .ok (.aload_n 0, 1) := by decide +kernel
theorem d_X_judge_40 : decode b_X_judge 40 = .ok (.getfield 70, 3) := by decide +kernel
theorem d_X_judge_43 : decode b_X_judge 43 = .ok (.iload_n 1, 1) := by decide +kernel
theorem d_X_judge_44 : decode b_X_judge 44 = .ok (.iaload, 1) := by decide +kernel
theorem d_X_judge_45 : decode b_X_judge 45 = .ok (.if_icmp .lt 6, 3) := by decide +kernel
theorem d_X_judge_48 : decode b_X_judge 48 = .ok (.bipush 100, 2) := by decide +kernel
theorem d_X_judge_50 : decode b_X_judge 50 = .ok (.ireturn, 1) := by decide +kernel
theorem d_X_judge_51 : decode b_X_judge 51 = .ok (.iconst 0, 1) := by decide +kernel
theorem d_X_judge_52 : decode b_X_judge 52 = .ok (.istore_n 3, 1) := by decide +kernel
theorem d_X_judge_53 : decode b_X_judge 53 = .ok (.iload_n 3, 1) := by decide +kernel
theorem d_X_judge_54 : decode b_X_judge 54 = .ok (.bipush 6, 2) := by decide +kernel
theorem d_X_judge_56 : decode b_X_judge 56 = .ok (.if_icmp .ge 52, 3) := by decide +kernel
theorem d_X_judge_59 : decode b_X_judge 59 = .ok (.iload_n 2, 1) := by decide +kernel
theorem d_X_judge_60 : decode b_X_judge 60 = .ok (.iload_n 3, 1) := by decide +kernel
theorem d_X_judge_61 : decode b_X_judge 61 = .ok (.iadd, 1) := by decide +kernel
theorem d_X_judge_62 : decode b_X_judge 62 = .ok (.aload_n 0, 1) := by decide +kernel
theorem d_X_judge_63 : decode b_X_judge 63 = .ok (.getfield 70, 3) := by decide +kernel
theorem d_X_judge_66 : decode b_X_judge 66 = .ok (.iload_n 1, 1) := by decide +kernel
theorem d_X_judge_67 : decode b_X_judge 67 = .ok (.iaload, 1) := by decide +kernel
theorem d_X_judge_68 : decode b_X_judge 68 = .ok (.if_icmp .lt 8, 3) := by decide +kernel
theorem d_X_judge_71 : decode b_X_judge 71 = .ok (.bipush 100, 2) := by decide +kernel
theorem d_X_judge_73 : decode b_X_judge 73 = .ok (.iload_n 3, 1) := by decide +kernel
theorem d_X_judge_74 : decode b_X_judge 74 = .ok (.iadd, 1) := by decide +kernel
theorem d_X_judge_75 : decode b_X_judge 75 = .ok (.ireturn, 1) := by decide +kernel
theorem d_X_judge_76 : decode b_X_judge 76 = .ok (.aload_n 0, 1) := by decide +kernel
theorem d_X_judge_77 : decode b_X_judge 77 = .ok (.getfield 75, 3) := by decide +kernel
theorem d_X_judge_80 : decode b_X_judge 80 = .ok (.iload_n 1, 1) := by decide +kernel
theorem d_X_judge_81 : decode b_X_judge 81 = .ok (.aaload, 1) := by decide +kernel
theorem d_X_judge_82 : decode b_X_judge 82 = .ok (.iload_n 2, 1) := by decide +kernel
theorem d_X_judge_83 : decode b_X_judge 83 = .ok (.iload_n 3, 1) := by decide +kernel
theorem d_X_judge_84 : decode b_X_judge 84 = .ok (.iadd, 1) := by decide +kernel
theorem d_X_judge_85 : decode b_X_judge 85 = .ok (.laload, 1) := by decide +kernel
theorem d_X_judge_86 : decode b_X_judge 86 = .ok (.aload_n 0, 1) := by decide +kernel
theorem d_X_judge_87 : decode b_X_judge 87 = .ok (.getfield 23, 3) := by decide +kernel
theorem d_X_judge_90 : decode b_X_judge 90 = .ok (.getfield 78, 3) := by decide +kernel
theorem d_X_judge_93 : decode b_X_judge 93 = .ok (.iload_n 3, 1) := by decide +kernel
theorem d_X_judge_94 : decode b_X_judge 94 = .ok (.iaload, 1) := by decide +kernel
theorem d_X_judge_95 : decode b_X_judge 95 = .ok (.i2l, 1) := by decide +kernel
theorem d_X_judge_96 : decode b_X_judge 96 = .ok (.lcmp, 1) := by decide +kernel
theorem d_X_judge_97 : decode b_X_judge 97 = .ok (.ifCond .eq 5, 3) := by decide +kernel
theorem d_X_judge_100 : decode b_X_judge 100 = .ok (.iload_n 3, 1) := by decide +kernel
theorem d_X_judge_101 : decode b_X_judge 101 = .ok (.ireturn, 1) := by decide +kernel
theorem d_X_judge_102 : decode b_X_judge 102 = .ok (.iinc 3 1, 3) := by decide +kernel
theorem d_X_judge_105 : decode b_X_judge 105 = .ok (.goto (-52), 3) := by decide +kernel
theorem d_X_judge_108 : decode b_X_judge 108 = .ok (.bipush (-5), 2) := by decide +kernel
theorem d_X_judge_110 : decode b_X_judge 110 = .ok (.ireturn, 1) := by decide +kernel
set_option maxRecDepth 20000 in
theorem c_X_judge_b53 {r : Int32} {wz : gW} {rec53 : Nat × Int32 × Int32 × Int32 × gW → Option (Int32 × gW)} (ih53 : ∀ (a0 : Nat) (a1 : Int32) (a2 : Int32) (a3 : Int32) (w : gW) (ls : Array Slot) (H : Heap) (locs : List Loc), rec53 (a0, a1, a2, a3, w) = some (r, wz) → lv_has ls 4 [(0, .ref (B + a0)), (1, .int a1), (2, .int a2), (3, .int a3)] → gRep D cA B w H → va_S (gA B) s.heap H locs → W p l e ({ frames := 2, cells := 0, slots := 0, locals := 60 } : Room) s m args below meth c H locs 0 0 (MQ below (gQi D cA B r wz) args s 0 0 (gA B)) (F0 m 53 ls [])) (C : gC p s m args meth c "RidCoppers" b_X_judge 4 (some .int) D cA oc B) (a0 : Nat) (a1 : Int32) (a2 : Int32) (a3 : Int32) (w : gW) {ls : Array Slot} {H : Heap} {locs : List Loc} (hl : lv_has ls 4 [(0, .ref (B + a0)), (1, .int a1), (2, .int a2), (3, .int a3)]) (hf : f_X_judge_b53 N rec53 a0 a1 a2 a3 w = some (r, wz)) (hR : gRep D cA B w H) (hS : va_S (gA B) s.heap H locs) : W p l e ({ frames := 2, cells := 0, slots := 0, locals := 60 } : Room) s m args below meth c H locs 0 0 (MQ below (gQi D cA B r wz) args s 0 0 (gA B)) (F0 m 53 ls []) := by
  obtain ⟨hx, hb, hml, hown, hts, hr, hlocks, hK, hBs⟩ := id C
  unfold f_X_judge_b53 at hf
  refine lv_iload_n hx hb d_X_judge_53 rfl (lv_at hl 3 rfl) ?_
  refine lv_bipush (v := 6) hx hb d_X_judge_54 (by decide) ?_
  refine lv_icmp_ge (tgt := 108) hx hb d_X_judge_56 (by decide) (fun hc => ?_) (fun hc => ?_)
  · have hf := cd_t hc hf
    refine lv_bipush (v := (-5)) hx hb d_X_judge_108 (by decide) ?_
    exact g_iret hx hb hr hlocks hR hS hf rfl d_X_judge_110
  have hf := cd_f hc hf
  refine lv_iload_n hx hb d_X_judge_59 rfl (lv_at hl 2 rfl) ?_
  refine lv_iload_n hx hb d_X_judge_60 rfl (lv_at hl 3 rfl) ?_
  refine lv_iadd hx hb d_X_judge_61 ?_
  refine g_nI hf (fun x16 hf => ?_)
  refine lv_aload_n hx hb d_X_judge_62 rfl (lv_at hl 0 rfl) ?_
  have ⟨h17, hf⟩ := gd_e hf
  have ⟨x18, h19, hf⟩ := rr_e hf
  refine g_getR hx hb hts hown hK hR fl_X_70 (fun _ => rfl) h17 h19 d_X_judge_63 ?_
  refine lv_iload_n hx hb d_X_judge_66 rfl (lv_at hl 1 rfl) ?_
  have ⟨h20, hf⟩ := gd_e hf
  have ⟨h21, hf⟩ := gd_e hf
  refine g_iald hx hb hK hR h20 h21 d_X_judge_67 ?_
  refine g_nI hf (fun x22 hf => ?_)
  refine lv_icmp_lt (tgt := 76) hx hb d_X_judge_68 (by decide) (fun hc => ?_) (fun hc => ?_)
  · have hf := cd_t hc hf
    refine lv_aload_n hx hb d_X_judge_76 rfl (lv_at hl 0 rfl) ?_
    have ⟨x23, h24, hf⟩ := rr_e hf
    refine g_getR hx hb hts hown hK hR fl_X_75 (fun _ => rfl) h17 h24 d_X_judge_77 ?_
    refine lv_iload_n hx hb d_X_judge_80 rfl (lv_at hl 1 rfl) ?_
    have ⟨h25, hf⟩ := gd_e hf
    have ⟨h26, hf⟩ := gd_e hf
    have ⟨x27, h28, hf⟩ := rr_e hf
    refine g_aald hx hb hK hR (by decide) rfl (fun _ _ => rfl) h25 h26 h28 d_X_judge_81 ?_
    refine lv_iload_n hx hb d_X_judge_82 rfl (lv_at hl 2 rfl) ?_
    refine lv_iload_n hx hb d_X_judge_83 rfl (lv_at hl 3 rfl) ?_
    refine lv_iadd hx hb d_X_judge_84 ?_
    refine g_nI hf (fun x29 hf => ?_)
    have ⟨h30, hf⟩ := gd_e hf
    have ⟨h31, hf⟩ := gd_e hf
    refine g_lald hx hb hK hR h30 h31 d_X_judge_85 ?_
    refine g_nL hf (fun x32 hf => ?_)
    refine lv_aload_n hx hb d_X_judge_86 rfl (lv_at hl 0 rfl) ?_
    have ⟨x33, h34, hf⟩ := rr_e hf
    refine g_getR hx hb hts hown hK hR fl_X_23 (fun _ => rfl) h17 h34 d_X_judge_87 ?_
    have ⟨h35, hf⟩ := gd_e hf
    have ⟨x36, h37, hf⟩ := rr_e hf
    refine g_getR hx hb hts hown hK hR fl_X_78 (fun _ => rfl) h35 h37 d_X_judge_90 ?_
    refine lv_iload_n hx hb d_X_judge_93 rfl (lv_at hl 3 rfl) ?_
    have ⟨h38, hf⟩ := gd_e hf
    have ⟨h39, hf⟩ := gd_e hf
    refine g_iald hx hb hK hR h38 h39 d_X_judge_94 ?_
    refine g_nI hf (fun x40 hf => ?_)
    refine lv_i2l hx hb d_X_judge_95 rfl ?_
    refine g_nL hf (fun x41 hf => ?_)
    refine W.lcmp hx hb d_X_judge_96 ?_
    refine g_nI hf (fun x42 hf => ?_)
    refine lv_if_eq (tgt := 102) hx hb d_X_judge_97 (by decide) (fun hc => ?_) (fun hc => ?_)
    · have hf := cd_t hc hf
      refine g_iinc (lv' := fun x43 => [(3, .int x43), (0, .ref (B + a0)), (1, .int a1), (2, .int a2)]) hf hx hb d_X_judge_102 hl (k := 3) rfl (by decide) (by decide) (fun _ => rfl) (fun x43 ls hf hl => ?_)
      refine lv_goto (tgt := 53) hx hb d_X_judge_105 (by decide) ?_
      exact ih53 a0 a1 a2 x43 w _ _ _ hf (lv_sub hl [1, 2, 3, 0] rfl) hR hS
    have hf := cd_f hc hf
    refine lv_iload_n hx hb d_X_judge_100 rfl (lv_at hl 3 rfl) ?_
    exact g_iret hx hb hr hlocks hR hS hf rfl d_X_judge_101
  have hf := cd_f hc hf
  refine lv_bipush (v := 100) hx hb d_X_judge_71 (by decide) ?_
  refine lv_iload_n hx hb d_X_judge_73 rfl (lv_at hl 3 rfl) ?_
  refine lv_iadd hx hb d_X_judge_74 ?_
  refine g_nI hf (fun x44 hf => ?_)
  exact g_iret hx hb hr hlocks hR hS hf rfl d_X_judge_75
theorem c_X_judge_l53 {r : Int32} {wz : gW} (C : gC p s m args meth c "RidCoppers" b_X_judge 4 (some .int) D cA oc B) (a0 : Nat) (a1 : Int32) (a2 : Int32) (a3 : Int32) (w : gW) {ls : Array Slot} {H : Heap} {locs : List Loc} (hl : lv_has ls 4 [(0, .ref (B + a0)), (1, .int a1), (2, .int a2), (3, .int a3)]) (hf : f_X_judge_l53 N a0 a1 a2 a3 w = some (r, wz)) (hR : gRep D cA B w H) (hS : va_S (gA B) s.heap H locs) : W p l e ({ frames := 2, cells := 0, slots := 0, locals := 60 } : Room) s m args below meth c H locs 0 0 (MQ below (gQi D cA B r wz) args s 0 0 (gA B)) (F0 m 53 ls []) := by
  unfold f_X_judge_l53 at hf
  suffices hh : ∀ n : Nat, ∀ (a0 : Nat) (a1 : Int32) (a2 : Int32) (a3 : Int32) (w : gW) (ls : Array Slot) (H : Heap) (locs : List Loc), itr (fun rec (q : Nat × Int32 × Int32 × Int32 × gW) => f_X_judge_b53 N rec q.1 q.2.1 q.2.2.1 q.2.2.2.1 q.2.2.2.2) n (a0, a1, a2, a3, w) = some (r, wz) → lv_has ls 4 [(0, .ref (B + a0)), (1, .int a1), (2, .int a2), (3, .int a3)] → gRep D cA B w H → va_S (gA B) s.heap H locs → W p l e ({ frames := 2, cells := 0, slots := 0, locals := 60 } : Room) s m args below meth c H locs 0 0 (MQ below (gQi D cA B r wz) args s 0 0 (gA B)) (F0 m 53 ls []) from hh N a0 a1 a2 a3 w ls H locs hf hl hR hS
  intro n
  induction n with
  | zero => intro a0 a1 a2 a3 w ls H locs hf; cases hf
  | succ n ihn =>
    intro a0 a1 a2 a3 w ls H locs hf hl hR hS
    exact c_X_judge_b53 (N := N) ihn C a0 a1 a2 a3 w hl ((itr_s _ _ _).symm.trans hf) hR hS
set_option maxRecDepth 20000 in
theorem c_X_judge_b0 {r : Int32} {wz : gW} (C : gC p s m args meth c "RidCoppers" b_X_judge 4 (some .int) D cA oc B) (a0 : Nat) (a1 : Int32) (a2 : Int32) (w : gW) {ls : Array Slot} {H : Heap} {locs : List Loc} (hl : lv_has ls 4 [(0, .ref (B + a0)), (1, .int a1), (2, .int a2)]) (hf : f_X_judge_b0 N a0 a1 a2 w = some (r, wz)) (hR : gRep D cA B w H) (hS : va_S (gA B) s.heap H locs) : W p l e ({ frames := 2, cells := 0, slots := 0, locals := 60 } : Room) s m args below meth c H locs 0 0 (MQ below (gQi D cA B r wz) args s 0 0 (gA B)) (F0 m 0 ls []) := by
  obtain ⟨hx, hb, hml, hown, hts, hr, hlocks, hK, hBs⟩ := id C
  unfold f_X_judge_b0 at hf
  refine lv_iload_n hx hb d_X_judge_0 rfl (lv_at hl 1 rfl) ?_
  have ⟨x1, w2, h3, hf⟩ := kl_e hf
  refine g_ki0 (g_rS (As := [.int a1]) (rest := []) hx hb hml hown hts hK hR hS (c_X_isTape l D cA oc B N a1 w h3) I_X_isTape m_844 rfl rfl (Nat.le_of_ble_eq_true rfl) hl.1 ⟨Nat.le_of_ble_eq_true rfl, Nat.le_of_ble_eq_true rfl⟩ ⟨Nat.le_of_ble_eq_true rfl, Nat.le_of_ble_eq_true rfl⟩ d_X_judge_1) hS (fun H locs hR hS => ?_)
  refine lv_if_ne (tgt := 9) hx hb d_X_judge_4 (by decide) (fun hc => ?_) (fun hc => ?_)
  · have hf := cd_f hc hf
    refine lv_aload_n hx hb d_X_judge_9 rfl (lv_at hl 0 rfl) ?_
    have ⟨h4, hf⟩ := gd_e hf
    have ⟨x5, h6, hf⟩ := rr_e hf
    refine g_getR hx hb hts hown hK hR fl_X_66 (fun _ => rfl) h4 h6 d_X_judge_10 ?_
    refine lv_iload_n hx hb d_X_judge_13 rfl (lv_at hl 1 rfl) ?_
    have ⟨h7, hf⟩ := gd_e hf
    have ⟨h8, hf⟩ := gd_e hf
    refine g_iald hx hb hK hR h7 h8 d_X_judge_14 ?_
    refine g_nI hf (fun x9 hf => ?_)
    refine lv_iconst (v := (-1)) hx hb d_X_judge_15 (by decide) ?_
    refine lv_icmp_ne (tgt := 22) hx hb d_X_judge_16 (by decide) (fun hc => ?_) (fun hc => ?_)
    · have hf := cd_f hc hf
      refine lv_aload_n hx hb d_X_judge_22 rfl (lv_at hl 0 rfl) ?_
      refine g_getR hx hb hts hown hK hR fl_X_66 (fun _ => rfl) h4 h6 d_X_judge_23 ?_
      refine lv_iload_n hx hb d_X_judge_26 rfl (lv_at hl 1 rfl) ?_
      refine g_iald hx hb hK hR h7 h8 d_X_judge_27 ?_
      refine g_nI hf (fun x10 hf => ?_)
      refine lv_if_eq (tgt := 34) hx hb d_X_judge_28 (by decide) (fun hc => ?_) (fun hc => ?_)
      · have hf := cd_t hc hf
        refine lv_iload_n hx hb d_X_judge_34 rfl (lv_at hl 2 rfl) ?_
        refine lv_if_lt (tgt := 48) hx hb d_X_judge_35 (by decide) (fun hc => ?_) (fun hc => ?_)
        · have hf := cd_t hc hf
          refine lv_bipush (v := 100) hx hb d_X_judge_48 (by decide) ?_
          exact g_iret hx hb hr hlocks hR hS hf rfl d_X_judge_50
        have hf := cd_f hc hf
        refine lv_iload_n hx hb d_X_judge_38 rfl (lv_at hl 2 rfl) ?_
        refine lv_aload_n hx hb d_X_judge_39 rfl (lv_at hl 0 rfl) ?_
        have ⟨x11, h12, hf⟩ := rr_e hf
        refine g_getR hx hb hts hown hK hR fl_X_70 (fun _ => rfl) h4 h12 d_X_judge_40 ?_
        refine lv_iload_n hx hb d_X_judge_43 rfl (lv_at hl 1 rfl) ?_
        have ⟨h13, hf⟩ := gd_e hf
        have ⟨h14, hf⟩ := gd_e hf
        refine g_iald hx hb hK hR h13 h14 d_X_judge_44 ?_
        refine g_nI hf (fun x15 hf => ?_)
        refine lv_icmp_lt (tgt := 51) hx hb d_X_judge_45 (by decide) (fun hc => ?_) (fun hc => ?_)
        · have hf := cd_t hc hf
          refine lv_iconst (v := 0) hx hb d_X_judge_51 (by decide) ?_
          refine lv_istore_n (lv' := [(3, .int 0), (0, .ref (B + a0)), (1, .int a1), (2, .int a2)]) hx hb d_X_judge_52 rfl hl (by decide) rfl (fun ls hl => ?_)
          exact c_X_judge_l53 C a0 a1 a2 0 w2 (lv_sub hl [1, 2, 3, 0] rfl) hf hR hS
        have hf := cd_f hc hf
        refine lv_bipush (v := 100) hx hb d_X_judge_48 (by decide) ?_
        exact g_iret hx hb hr hlocks hR hS hf rfl d_X_judge_50
      have hf := cd_f hc hf
      refine lv_bipush (v := (-12)) hx hb d_X_judge_31 (by decide) ?_
      exact g_iret hx hb hr hlocks hR hS hf rfl d_X_judge_33
    have hf := cd_t hc hf
    refine lv_bipush (v := 100) hx hb d_X_judge_19 (by decide) ?_
    exact g_iret hx hb hr hlocks hR hS hf rfl d_X_judge_21
  have hf := cd_t hc hf
  refine lv_iconst (v := (-1)) hx hb d_X_judge_7 (by decide) ?_
  exact g_iret hx hb hr hlocks hR hS hf rfl d_X_judge_8
theorem c_X_judge (l : Launch) (D : va_G) (cA : Nat → ClassId) (oc : gO) (B N : Nat) (a0 : Nat) (a1 : Int32) (a2 : Int32) (w : gW) {wz : gW} {r : Int32} (hf : f_X_judge N a0 a1 a2 w = some (r, wz)) : Met l y_X_judge (Cond.code y_X_judge b_X_judge 4 (some .int) :: lw_good) ({ frames := 2, cells := 0, slots := 0, locals := 60 } : Room) (gPre D cA oc B [.ref (B + a0), .int a1, .int a2] w) (gQi D cA B r wz) 0 0 (gA B) := by
  refine Met.ofW (cc := b_X_judge) (maxL := 4) (ret := (some .int)) (by decide +kernel) rfl ?_
  intro p e s m args below meth c s₁ Bd hml hv
  obtain ⟨hargs, C, hR⟩ := gC.enter (l := l) rfl Bd hml hv
  subst hargs
  have hl := lv_entry ([.ref (B + a0), .int a1, .int a2]) (n := 4) (Nat.le_of_ble_eq_true rfl)
  rw [lg_entry_eq]
  generalize (lg_sl ([.ref (B + a0), .int a1, .int a2]) ++ List.replicate (4 - (lg_sl ([.ref (B + a0), .int a1, .int a2])).length) Slot.unset).toArray = ls at hl ⊢
  have hl : lv_has ls 4 [(0, .ref (B + a0)), (1, .int a1), (2, .int a2)] := hl
  exact c_X_judge_b0 C a0 a1 a2 w (lv_sub hl [0, 1, 2] rfl) hf hR va_S.rf
theorem d_X_image_0 : decode b_X_image 0 = .ok (.aload_n 0, 1) := by decide +kernel
theorem d_X_image_1 : decode b_X_image 1 = .ok (.getfield 27, 3) := by decide +kernel
theorem d_X_image_4 : decode b_X_image 4 = .ok (.aload_n 0, 1) := by decide +kernel
theorem d_X_image_5 : decode b_X_image 5 = .ok (.getfield 23, 3) := by decide +kernel
theorem d_X_image_8 : decode b_X_image 8 = .ok (.invokevirtual 201, 3) := by decide +kernel
theorem d_X_image_11 : decode b_X_image 11 = .ok (.aload_n 0, 1) := by decide +kernel
theorem d_X_image_12 : decode b_X_image 12 = .ok (.iconst 1, 1) := by decide +kernel
theorem d_X_image_13 : decode b_X_image 13 = .ok (.putfield 33, 3) := by decide +kernel
theorem d_X_image_16 : decode b_X_image 16 = .ok (.aload_n 0, 1) := by decide +kernel
theorem d_X_image_17 : decode b_X_image 17 = .ok (.getfield 23, 3) := by decide +kernel
theorem d_X_image_20 : decode b_X_image 20 = .ok (.getfield 81, 3) := by decide +kernel
theorem d_X_image_23 : decode b_X_image 23 = .ok (.ireturn, 1) := by decide +kernel
set_option maxRecDepth 20000 in
theorem c_X_image_b0 {r : Int32} {wz : gW} (C : gC p s m args meth c "RidCoppers" b_X_image 1 (some .int) D cA oc B) (a0 : Nat) (w : gW) {ls : Array Slot} {H : Heap} {locs : List Loc} (hl : lv_has ls 1 [(0, .ref (B + a0))]) (hf : f_X_image_b0 N a0 w = some (r, wz)) (hR : gRep D cA B w H) (hS : va_S (gA B) s.heap H locs) : W p l e ({ frames := 2, cells := 0, slots := 0, locals := 82 } : Room) s m args below meth c H locs 0 0 (MQ below (gQi D cA B r wz) args s 0 0 (gA B)) (F0 m 0 ls []) := by
  obtain ⟨hx, hb, hml, hown, hts, hr, hlocks, hK, hBs⟩ := id C
  unfold f_X_image_b0 at hf
  refine lv_aload_n hx hb d_X_image_0 rfl (lv_at hl 0 rfl) ?_
  have ⟨h1, hf⟩ := gd_e hf
  have ⟨x2, h3, hf⟩ := rr_e hf
  refine g_getR hx hb hts hown hK hR fl_X_27 (fun _ => rfl) h1 h3 d_X_image_1 ?_
  refine lv_aload_n hx hb d_X_image_4 rfl (lv_at hl 0 rfl) ?_
  have ⟨x4, h5, hf⟩ := rr_e hf
  refine g_getR hx hb hts hown hK hR fl_X_23 (fun _ => rfl) h1 h5 d_X_image_5 ?_
  have ⟨h9, hf⟩ := gd_e hf
  have ⟨x6, w7, h8, hf⟩ := kl_e hf
  refine g_kv0 (g_rV (As := [.ref (B + x4)]) (rest := []) hx hb hml hown hts hK hR hS (c_Wo_become l D cA oc B N x2 x4 w h8) I_Wo_become m_766 m_768 (gRecv hK hR (ci := 9) rfl h9) rfl rfl (Nat.le_of_ble_eq_true rfl) hl.1 ⟨Nat.le_of_ble_eq_true rfl, Nat.le_of_ble_eq_true rfl⟩ ⟨Nat.le_of_ble_eq_true rfl, Nat.le_of_ble_eq_true rfl⟩ d_X_image_8) hS (fun H locs hR hS => ?_)
  refine lv_aload_n hx hb d_X_image_11 rfl (lv_at hl 0 rfl) ?_
  refine lv_iconst (v := 1) hx hb d_X_image_12 (by decide) ?_
  have ⟨h10, hf⟩ := gd_e hf
  refine g_putI hx hb hts hown hK hR hS pf_X_33 (fun _ => rfl) rfl rfl h10 d_X_image_13 (fun H locs hR hS => ?_)
  refine g_nW hf hR (fun w11 hf hR => ?_)
  refine lv_aload_n hx hb d_X_image_16 rfl (lv_at hl 0 rfl) ?_
  have ⟨h12, hf⟩ := gd_e hf
  have ⟨x13, h14, hf⟩ := rr_e hf
  refine g_getR hx hb hts hown hK hR fl_X_23 (fun _ => rfl) h12 h14 d_X_image_17 ?_
  have ⟨h15, hf⟩ := gd_e hf
  refine g_getI hx hb hts hown hK hR fl_X_81 (fun _ => rfl) h15 d_X_image_20 ?_
  refine g_nI hf (fun x16 hf => ?_)
  exact g_iret hx hb hr hlocks hR hS hf rfl d_X_image_23
theorem c_X_image (l : Launch) (D : va_G) (cA : Nat → ClassId) (oc : gO) (B N : Nat) (a0 : Nat) (w : gW) {wz : gW} {r : Int32} (hf : f_X_image N a0 w = some (r, wz)) : Met l y_X_image (Cond.code y_X_image b_X_image 1 (some .int) :: lw_good) ({ frames := 2, cells := 0, slots := 0, locals := 82 } : Room) (gPre D cA oc B [.ref (B + a0)] w) (gQi D cA B r wz) 0 0 (gA B) := by
  refine Met.ofW (cc := b_X_image) (maxL := 1) (ret := (some .int)) (by decide +kernel) rfl ?_
  intro p e s m args below meth c s₁ Bd hml hv
  obtain ⟨hargs, C, hR⟩ := gC.enter (l := l) rfl Bd hml hv
  subst hargs
  have hl := lv_entry ([.ref (B + a0)]) (n := 1) (Nat.le_of_ble_eq_true rfl)
  rw [lg_entry_eq]
  generalize (lg_sl ([.ref (B + a0)]) ++ List.replicate (1 - (lg_sl ([.ref (B + a0)])).length) Slot.unset).toArray = ls at hl ⊢
  have hl : lv_has ls 1 [(0, .ref (B + a0))] := hl
  exact c_X_image_b0 C a0 w (lv_sub hl [0] rfl) hf hR va_S.rf
theorem d_X_undo_0 : decode b_X_undo 0 = .ok (.aload_n 0, 1) := by decide +kernel
theorem d_X_undo_1 : decode b_X_undo 1 = .ok (.getfield 33, 3) := by decide +kernel
theorem d_X_undo_4 : decode b_X_undo 4 = .ok (.ifCond .ne 6, 3) := by decide +kernel
theorem d_X_undo_7 : decode b_X_undo 7 = .ok (.bipush (-3), 2) := by decide +kernel
theorem d_X_undo_9 : decode b_X_undo 9 = .ok (.ireturn, 1) := by decide +kernel
theorem d_X_undo_10 : decode b_X_undo 10 = .ok (.aload_n 0, 1) := by decide +kernel
theorem d_X_undo_11 : decode b_X_undo 11 = .ok (.getfield 23, 3) := by decide +kernel
theorem d_X_undo_14 : decode b_X_undo 14 = .ok (.aload_n 0, 1) := by decide +kernel
theorem d_X_undo_15 : decode b_X_undo 15 = .ok (.getfield 27, 3) := by decide +kernel
theorem d_X_undo_18 : decode b_X_undo 18 = .ok (.invokevirtual 201, 3) := by decide +kernel
theorem d_X_undo_21 : decode b_X_undo 21 = .ok (.aload_n 0, 1) := by decide +kernel
theorem d_X_undo_22 : decode b_X_undo 22 = .ok (.getfield 23, 3) := by decide +kernel
theorem d_X_undo_25 : decode b_X_undo 25 = .ok (.getfield 81, 3) := by decide +kernel
theorem d_X_undo_28 : decode b_X_undo 28 = .ok (.ireturn, 1) := by decide +kernel
set_option maxRecDepth 20000 in
theorem c_X_undo_b0 {r : Int32} {wz : gW} (C : gC p s m args meth c "RidCoppers" b_X_undo 1 (some .int) D cA oc B) (a0 : Nat) (w : gW) {ls : Array Slot} {H : Heap} {locs : List Loc} (hl : lv_has ls 1 [(0, .ref (B + a0))]) (hf : f_X_undo_b0 N a0 w = some (r, wz)) (hR : gRep D cA B w H) (hS : va_S (gA B) s.heap H locs) : W p l e ({ frames := 2, cells := 0, slots := 0, locals := 82 } : Room) s m args below meth c H locs 0 0 (MQ below (gQi D cA B r wz) args s 0 0 (gA B)) (F0 m 0 ls []) := by
  obtain ⟨hx, hb, hml, hown, hts, hr, hlocks, hK, hBs⟩ := id C
  unfold f_X_undo_b0 at hf
  refine lv_aload_n hx hb d_X_undo_0 rfl (lv_at hl 0 rfl) ?_
  have ⟨h1, hf⟩ := gd_e hf
  refine g_getI hx hb hts hown hK hR fl_X_33 (fun _ => rfl) h1 d_X_undo_1 ?_
  refine g_nI hf (fun x2 hf => ?_)
  refine lv_if_ne (tgt := 10) hx hb d_X_undo_4 (by decide) (fun hc => ?_) (fun hc => ?_)
  · have hf := cd_f hc hf
    refine lv_aload_n hx hb d_X_undo_10 rfl (lv_at hl 0 rfl) ?_
    have ⟨x3, h4, hf⟩ := rr_e hf
    refine g_getR hx hb hts hown hK hR fl_X_23 (fun _ => rfl) h1 h4 d_X_undo_11 ?_
    refine lv_aload_n hx hb d_X_undo_14 rfl (lv_at hl 0 rfl) ?_
    have ⟨x5, h6, hf⟩ := rr_e hf
    refine g_getR hx hb hts hown hK hR fl_X_27 (fun _ => rfl) h1 h6 d_X_undo_15 ?_
    have ⟨h10, hf⟩ := gd_e hf
    have ⟨x7, w8, h9, hf⟩ := kl_e hf
    refine g_kv0 (g_rV (As := [.ref (B + x5)]) (rest := []) hx hb hml hown hts hK hR hS (c_Wo_become l D cA oc B N x3 x5 w h9) I_Wo_become m_766 m_768 (gRecv hK hR (ci := 9) rfl h10) rfl rfl (Nat.le_of_ble_eq_true rfl) hl.1 ⟨Nat.le_of_ble_eq_true rfl, Nat.le_of_ble_eq_true rfl⟩ ⟨Nat.le_of_ble_eq_true rfl, Nat.le_of_ble_eq_true rfl⟩ d_X_undo_18) hS (fun H locs hR hS => ?_)
    refine lv_aload_n hx hb d_X_undo_21 rfl (lv_at hl 0 rfl) ?_
    have ⟨h11, hf⟩ := gd_e hf
    have ⟨x12, h13, hf⟩ := rr_e hf
    refine g_getR hx hb hts hown hK hR fl_X_23 (fun _ => rfl) h11 h13 d_X_undo_22 ?_
    have ⟨h14, hf⟩ := gd_e hf
    refine g_getI hx hb hts hown hK hR fl_X_81 (fun _ => rfl) h14 d_X_undo_25 ?_
    refine g_nI hf (fun x15 hf => ?_)
    exact g_iret hx hb hr hlocks hR hS hf rfl d_X_undo_28
  have hf := cd_t hc hf
  refine lv_bipush (v := (-3)) hx hb d_X_undo_7 (by decide) ?_
  exact g_iret hx hb hr hlocks hR hS hf rfl d_X_undo_9
theorem c_X_undo (l : Launch) (D : va_G) (cA : Nat → ClassId) (oc : gO) (B N : Nat) (a0 : Nat) (w : gW) {wz : gW} {r : Int32} (hf : f_X_undo N a0 w = some (r, wz)) : Met l y_X_undo (Cond.code y_X_undo b_X_undo 1 (some .int) :: lw_good) ({ frames := 2, cells := 0, slots := 0, locals := 82 } : Room) (gPre D cA oc B [.ref (B + a0)] w) (gQi D cA B r wz) 0 0 (gA B) := by
  refine Met.ofW (cc := b_X_undo) (maxL := 1) (ret := (some .int)) (by decide +kernel) rfl ?_
  intro p e s m args below meth c s₁ Bd hml hv
  obtain ⟨hargs, C, hR⟩ := gC.enter (l := l) rfl Bd hml hv
  subst hargs
  have hl := lv_entry ([.ref (B + a0)]) (n := 1) (Nat.le_of_ble_eq_true rfl)
  rw [lg_entry_eq]
  generalize (lg_sl ([.ref (B + a0)]) ++ List.replicate (1 - (lg_sl ([.ref (B + a0)])).length) Slot.unset).toArray = ls at hl ⊢
  have hl : lv_has ls 1 [(0, .ref (B + a0))] := hl
  exact c_X_undo_b0 C a0 w (lv_sub hl [0] rfl) hf hR va_S.rf
theorem d_X_act_0 : decode b_X_act 0 = .ok (.aload_n 0, 1) := by decide +kernel
theorem d_X_act_1 : decode b_X_act 1 = .ok (.getfield 62, 3) := by decide +kernel
theorem d_X_act_4 : decode b_X_act 4 = .ok (.iconst 0, 1) := by decide +kernel
theorem d_X_act_5 : decode b_X_act 5 = .ok (.putfield 245, 3) := by decide +kernel
theorem d_X_act_8 : decode b_X_act 8 = .ok (.aload_n 0, 1) := by decide +kernel
theorem d_X_act_9 : decode b_X_act 9 = .ok (.iload_n 1, 1) := by decide +kernel
theorem d_X_act_10 : decode b_X_act 10 = .ok (.invokevirtual 92, 3) := by decide +kernel
theorem d_X_act_13 : decode b_X_act 13 = .ok (.astore 4, 2) := by decide +kernel
theorem d_X_act_15 : decode b_X_act 15 = .ok (.aload 4, 2) := by decide +kernel
theorem d_X_act_17 : decode b_X_act 17 = .ok (.ifnonnull 5, 3) := by decide +kernel
theorem d_X_act_20 : decode b_X_act 20 = .ok (.iconst 0, 1) := by decide +kernel
theorem d_X_act_21 : decode b_X_act 21 = .ok (.ireturn, 1) := by decide +kernel
theorem d_X_act_22 : decode b_X_act 22 = .ok (.iload_n 2, 1) := by decide +kernel
theorem d_X_act_23 : decode b_X_act 23 = .ok (.tableswitch 58 0 2 #[25, 36, 47], 25) := by decide +kernel
theorem d_X_act_48 : decode b_X_act 48 = .ok (.aload 4, 2) := by decide +kernel
theorem d_X_act_50 : decode b_X_act 50 = .ok (.iload_n 3, 1) := by decide +kernel
theorem d_X_act_51 : decode b_X_act 51 = .ok (.aload_n 0, 1) := by decide +kernel
theorem d_X_act_52 : decode b_X_act 52 = .ok (.getfield 62, 3) := by decide +kernel
theorem d_X_act_55 : decode b_X_act 55 = .ok (.invokevirtual 248, 3) := by decide +kernel
theorem d_X_act_58 : decode b_X_act 58 = .ok (.ireturn, 1) := by decide +kernel
theorem d_X_act_59 : decode b_X_act 59 = .ok (.aload 4, 2) := by decide +kernel
theorem d_X_act_61 : decode b_X_act 61 = .ok (.iload_n 3, 1) := by decide +kernel
theorem d_X_act_62 : decode b_X_act 62 = .ok (.aload_n 0, 1) := by decide +kernel
theorem d_X_act_63 : decode b_X_act 63 = .ok (.getfield 62, 3) := by decide +kernel
theorem d_X_act_66 : decode b_X_act 66 = .ok (.invokevirtual 252, 3) := by decide +kernel
theorem d_X_act_69 : decode b_X_act 69 = .ok (.ireturn, 1) := by decide +kernel
theorem d_X_act_70 : decode b_X_act 70 = .ok (.aload 4, 2) := by decide +kernel
theorem d_X_act_72 : decode b_X_act 72 = .ok (.iload_n 3, 1) := by decide +kernel
theorem d_X_act_73 : decode b_X_act 73 = .ok (.aload_n 0, 1) := by decide +kernel
theorem d_X_act_74 : decode b_X_act 74 = .ok (.getfield 62, 3) := by decide +kernel
theorem d_X_act_77 : decode b_X_act 77 = .ok (.invokevirtual 255, 3) := by decide +kernel
theorem d_X_act_80 : decode b_X_act 80 = .ok (.ireturn, 1) := by decide +kernel
theorem d_X_act_81 : decode b_X_act 81 = .ok (.iconst 0, 1) := by decide +kernel
theorem d_X_act_82 : decode b_X_act 82 = .ok (.ireturn, 1) := by decide +kernel
set_option maxRecDepth 20000 in
theorem g_rv_tells {R : Room} {H : Heap} {locs : List Loc} {cells slots idx nL a pc : Nat} {ls : Array Slot} {cc : ByteArray} {own : String} {w w1 : gW} {rest st0 : List Value} {a1 : Int32} {a2 : Nat} {x : Int32} (hexec : p.tables.exec = Jvm.exec) (hb : c.code = cc) (hml : c.maxLocals = nL) (hown : s.vm.findClass own = some m.cls) (hts : ∀ w ∈ lw_good, w.before args s = true) (hK : gK D cA oc B s s.heap) (hR : gRep D cA B w H) (hS : va_S (gA B) s.heap H locs) (hh : v_tells N a a1 a2 w = some (x, w1)) (hl : Cond.methodLink own idx y_P_tells ∈ lw_good) (hstack : st0 = .ref (B + a2) :: .int a1 :: .ref (B + a) :: rest) (hcat : (rest.map fun v => v.category).sum ≤ 8) (hsz : ls.size = nL) (hrm : 9 ≤ R.frames ∧ 215 ≤ R.locals) (hcs : cells ≤ R.cells ∧ slots ≤ R.slots) (hdg : decode cc pc = .ok (.invokevirtual idx, 3)) : va_Run p l e R s m args below meth c H locs cells slots 0 0 (F0 m pc ls st0) rest (gQi D cA B x w1 (Value.ref (B + a) :: [.int a1, .ref (B + a2)]).toArray) (gA B) := by
  unfold v_tells at hh
  by_cases h0 : (sh w a).1 = 0
  · have hh := cd_t h0 hh
    exact g_rU (As := [.int a1, .ref (B + a2)]) (rest := rest) (x := y_P_tells) (owner := "RidCoppers$Payer") (C := "RidCoppers$Payer") hexec hb hml hown hts hK hR hS (c_P_tells l D cA oc B N a a1 a2 w hh) I_P_tells hl m_916 m_914 m_936 m_915 (by decide) (by decide +kernel) (gRecv hK hR (ci := 0) rfl h0) rfl hstack hcat hsz ⟨Nat.le_trans (m := 9) (Nat.le_of_ble_eq_true rfl) hrm.1, Nat.le_trans (m := 215) (Nat.le_of_ble_eq_true rfl) hrm.2⟩ hcs hdg
  have hh := cd_f h0 hh
  by_cases h1 : (sh w a).1 = 1
  · have hh := cd_t h1 hh
    exact g_rU (As := [.int a1, .ref (B + a2)]) (rest := rest) (x := y_P_tells) (owner := "RidCoppers$Payer") (C := "RidCoppers$Exact") hexec hb hml hown hts hK hR hS (c_P_tells l D cA oc B N a a1 a2 w hh) I_P_tells hl m_916 m_914 m_936 m_917 (by decide) (by decide +kernel) (gRecv hK hR (ci := 1) rfl h1) rfl hstack hcat hsz ⟨Nat.le_trans (m := 9) (Nat.le_of_ble_eq_true rfl) hrm.1, Nat.le_trans (m := 215) (Nat.le_of_ble_eq_true rfl) hrm.2⟩ hcs hdg
  have hh := cd_f h1 hh
  by_cases h2 : (sh w a).1 = 2
  · have hh := cd_t h2 hh
    exact g_rU (As := [.int a1, .ref (B + a2)]) (rest := rest) (x := y_P_tells) (owner := "RidCoppers$Payer") (C := "RidCoppers$Rough") hexec hb hml hown hts hK hR hS (c_P_tells l D cA oc B N a a1 a2 w hh) I_P_tells hl m_916 m_914 m_936 m_927 (by decide) (by decide +kernel) (gRecv hK hR (ci := 2) rfl h2) rfl hstack hcat hsz ⟨Nat.le_trans (m := 9) (Nat.le_of_ble_eq_true rfl) hrm.1, Nat.le_trans (m := 215) (Nat.le_of_ble_eq_true rfl) hrm.2⟩ hcs hdg
  have hh := cd_f h2 hh
  by_cases h3 : (sh w a).1 = 3
  · have hh := cd_t h3 hh
    exact g_rU (As := [.int a1, .ref (B + a2)]) (rest := rest) (x := y_P_tells) (owner := "RidCoppers$Payer") (C := "RidCoppers$Keeper") hexec hb hml hown hts hK hR hS (c_Ke_tells l D cA oc B N a a1 a2 w hh) I_Ke_tells hl m_916 m_914 m_936 m_918 (by decide) (by decide +kernel) (gRecv hK hR (ci := 3) rfl h3) rfl hstack hcat hsz ⟨Nat.le_trans (m := 9) (Nat.le_of_ble_eq_true rfl) hrm.1, Nat.le_trans (m := 215) (Nat.le_of_ble_eq_true rfl) hrm.2⟩ hcs hdg
  have hh := cd_f h3 hh
  by_cases h4 : (sh w a).1 = 4
  · have hh := cd_t h4 hh
    exact g_rU (As := [.int a1, .ref (B + a2)]) (rest := rest) (x := y_P_tells) (owner := "RidCoppers$Payer") (C := "RidCoppers$Light") hexec hb hml hown hts hK hR hS (c_P_tells l D cA oc B N a a1 a2 w hh) I_P_tells hl m_916 m_914 m_936 m_926 (by decide) (by decide +kernel) (gRecv hK hR (ci := 4) rfl h4) rfl hstack hcat hsz ⟨Nat.le_trans (m := 9) (Nat.le_of_ble_eq_true rfl) hrm.1, Nat.le_trans (m := 215) (Nat.le_of_ble_eq_true rfl) hrm.2⟩ hcs hdg
  have hh := cd_f h4 hh
  by_cases h5 : (sh w a).1 = 5
  · have hh := cd_t h5 hh
    exact g_rU (As := [.int a1, .ref (B + a2)]) (rest := rest) (x := y_P_tells) (owner := "RidCoppers$Payer") (C := "RidCoppers$Wild") hexec hb hml hown hts hK hR hS (c_Wi_tells l D cA oc B N a a1 a2 w hh) I_Wi_tells hl m_916 m_914 m_936 m_929 (by decide) (by decide +kernel) (gRecv hK hR (ci := 5) rfl h5) rfl hstack hcat hsz ⟨Nat.le_trans (m := 9) (Nat.le_of_ble_eq_true rfl) hrm.1, Nat.le_trans (m := 215) (Nat.le_of_ble_eq_true rfl) hrm.2⟩ hcs hdg
  have hh := cd_f h5 hh
  by_cases h6 : (sh w a).1 = 6
  · have hh := cd_t h6 hh
    exact g_rU (As := [.int a1, .ref (B + a2)]) (rest := rest) (x := y_P_tells) (owner := "RidCoppers$Payer") (C := "RidCoppers$Told") hexec hb hml hown hts hK hR hS (c_Ke_tells l D cA oc B N a a1 a2 w hh) I_Ke_tells hl m_916 m_914 m_936 m_928 (by decide) (by decide +kernel) (gRecv hK hR (ci := 6) rfl h6) rfl hstack hcat hsz ⟨Nat.le_trans (m := 9) (Nat.le_of_ble_eq_true rfl) hrm.1, Nat.le_trans (m := 215) (Nat.le_of_ble_eq_true rfl) hrm.2⟩ hcs hdg
  have hh := cd_f h6 hh
  cases hh
set_option maxRecDepth 20000 in
theorem c_X_act_b0 {r : Int32} {wz : gW} (C : gC p s m args meth c "RidCoppers" b_X_act 5 (some .int) D cA oc B) (a0 : Nat) (a1 : Int32) (a2 : Int32) (a3 : Int32) (w : gW) {ls : Array Slot} {H : Heap} {locs : List Loc} (hl : lv_has ls 5 [(0, .ref (B + a0)), (1, .int a1), (2, .int a2), (3, .int a3)]) (hf : f_X_act_b0 N a0 a1 a2 a3 w = some (r, wz)) (hR : gRep D cA B w H) (hS : va_S (gA B) s.heap H locs) : W p l e ({ frames := 9, cells := 0, slots := 0, locals := 215 } : Room) s m args below meth c H locs 0 0 (MQ below (gQi D cA B r wz) args s 0 0 (gA B)) (F0 m 0 ls []) := by
  obtain ⟨hx, hb, hml, hown, hts, hr, hlocks, hK, hBs⟩ := id C
  unfold f_X_act_b0 at hf
  refine lv_aload_n hx hb d_X_act_0 rfl (lv_at hl 0 rfl) ?_
  have ⟨h1, hf⟩ := gd_e hf
  have ⟨x2, h3, hf⟩ := rr_e hf
  refine g_getR hx hb hts hown hK hR fl_X_62 (fun _ => rfl) h1 h3 d_X_act_1 ?_
  refine lv_iconst (v := 0) hx hb d_X_act_4 (by decide) ?_
  have ⟨h4, hf⟩ := gd_e hf
  refine g_putI hx hb hts hown hK hR hS pf_X_245 (fun _ => rfl) rfl rfl h4 d_X_act_5 (fun H locs hR hS => ?_)
  refine g_nW hf hR (fun w5 hf hR => ?_)
  refine lv_aload_n hx hb d_X_act_8 rfl (lv_at hl 0 rfl) ?_
  refine lv_iload_n hx hb d_X_act_9 rfl (lv_at hl 1 rfl) ?_
  have ⟨h9, hf⟩ := gd_e hf
  have ⟨x6, w7, h8, hf⟩ := kl_e hf
  refine g_kr0 (g_rV (As := [.int a1]) (rest := []) hx hb hml hown hts hK hR hS (c_X_payerAt l D cA oc B N a0 a1 w5 h8) I_X_payerAt m_374 mp_0 (gRecv hK hR (ci := 11) rfl h9) rfl rfl (Nat.le_of_ble_eq_true rfl) hl.1 ⟨Nat.le_of_ble_eq_true rfl, Nat.le_of_ble_eq_true rfl⟩ ⟨Nat.le_of_ble_eq_true rfl, Nat.le_of_ble_eq_true rfl⟩ d_X_act_10) hS (fun H locs hR hS => ?_)
  rcases x6 with _ | x10
  · have hf := nr_n hf
    refine lv_astoreN (lv' := [(4, .null), (0, .ref (B + a0)), (1, .int a1), (2, .int a2), (3, .int a3)]) hx hb d_X_act_13 hl (by decide) rfl (fun ls hl => ?_)
    refine lv_aloadN hx hb d_X_act_15 (lv_at hl 0 rfl) ?_
    refine lv_ifnonnullN hx hb d_X_act_17 ?_
    refine lv_iconst (v := 0) hx hb d_X_act_20 (by decide) ?_
    exact g_iret hx hb hr hlocks hR hS hf rfl d_X_act_21
  have hf := nr_s hf
  refine lv_astore (lv' := [(4, .ref (B + x10)), (0, .ref (B + a0)), (1, .int a1), (2, .int a2), (3, .int a3)]) hx hb d_X_act_13 hl (by decide) rfl (fun ls hl => ?_)
  refine lv_aload hx hb d_X_act_15 (lv_at hl 0 rfl) ?_
  refine lv_ifnonnull (tgt := 22) hx hb d_X_act_17 (by decide) ?_
  refine lv_iload_n hx hb d_X_act_22 rfl (lv_at hl 3 rfl) ?_
  by_cases hc12 : a2 = 0
  · refine lv_tableIn (off := 25) (tgt := 48) hx hb d_X_act_23 (by rw [hc12]; decide) (by rw [hc12]; decide) (by rw [hc12]; rfl) (by decide) ?_
    have hf := cd_t hc12 hf
    refine lv_aload hx hb d_X_act_48 (lv_at hl 0 rfl) ?_
    refine lv_iload_n hx hb d_X_act_50 rfl (lv_at hl 4 rfl) ?_
    refine lv_aload_n hx hb d_X_act_51 rfl (lv_at hl 1 rfl) ?_
    have ⟨h13, hf⟩ := gd_e hf
    have ⟨x14, h15, hf⟩ := rr_e hf
    refine g_getR hx hb hts hown hK hR fl_X_62 (fun _ => rfl) h13 h15 d_X_act_52 ?_
    have ⟨x16, w17, h18, hf⟩ := kl_e hf
    refine g_ki0 (g_rv_counts (rest := []) hx hb hml hown hts hK hR hS h18 m_859 rfl (Nat.le_of_ble_eq_true rfl) hl.1 ⟨Nat.le_of_ble_eq_true rfl, Nat.le_of_ble_eq_true rfl⟩ ⟨Nat.le_of_ble_eq_true rfl, Nat.le_of_ble_eq_true rfl⟩ d_X_act_55) hS (fun H locs hR hS => ?_)
    exact g_iret hx hb hr hlocks hR hS hf rfl d_X_act_58
  have hf := cd_f hc12 hf
  by_cases hc19 : a2 = 1
  · refine lv_tableIn (off := 36) (tgt := 59) hx hb d_X_act_23 (by rw [hc19]; decide) (by rw [hc19]; decide) (by rw [hc19]; rfl) (by decide) ?_
    have hf := cd_t hc19 hf
    refine lv_aload hx hb d_X_act_59 (lv_at hl 0 rfl) ?_
    refine lv_iload_n hx hb d_X_act_61 rfl (lv_at hl 4 rfl) ?_
    refine lv_aload_n hx hb d_X_act_62 rfl (lv_at hl 1 rfl) ?_
    have ⟨h20, hf⟩ := gd_e hf
    have ⟨x21, h22, hf⟩ := rr_e hf
    refine g_getR hx hb hts hown hK hR fl_X_62 (fun _ => rfl) h20 h22 d_X_act_63 ?_
    have ⟨x23, w24, h25, hf⟩ := kl_e hf
    refine g_ki0 (g_rv_hands (rest := []) hx hb hml hown hts hK hR hS h25 m_889 rfl (Nat.le_of_ble_eq_true rfl) hl.1 ⟨Nat.le_of_ble_eq_true rfl, Nat.le_of_ble_eq_true rfl⟩ ⟨Nat.le_of_ble_eq_true rfl, Nat.le_of_ble_eq_true rfl⟩ d_X_act_66) hS (fun H locs hR hS => ?_)
    exact g_iret hx hb hr hlocks hR hS hf rfl d_X_act_69
  have hf := cd_f hc19 hf
  by_cases hc26 : a2 = 2
  · refine lv_tableIn (off := 47) (tgt := 70) hx hb d_X_act_23 (by rw [hc26]; decide) (by rw [hc26]; decide) (by rw [hc26]; rfl) (by decide) ?_
    have hf := cd_t hc26 hf
    refine lv_aload hx hb d_X_act_70 (lv_at hl 0 rfl) ?_
    refine lv_iload_n hx hb d_X_act_72 rfl (lv_at hl 4 rfl) ?_
    refine lv_aload_n hx hb d_X_act_73 rfl (lv_at hl 1 rfl) ?_
    have ⟨h27, hf⟩ := gd_e hf
    have ⟨x28, h29, hf⟩ := rr_e hf
    refine g_getR hx hb hts hown hK hR fl_X_62 (fun _ => rfl) h27 h29 d_X_act_74 ?_
    have ⟨x30, w31, h32, hf⟩ := kl_e hf
    refine g_ki0 (g_rv_tells (rest := []) hx hb hml hown hts hK hR hS h32 m_913 rfl (Nat.le_of_ble_eq_true rfl) hl.1 ⟨Nat.le_of_ble_eq_true rfl, Nat.le_of_ble_eq_true rfl⟩ ⟨Nat.le_of_ble_eq_true rfl, Nat.le_of_ble_eq_true rfl⟩ d_X_act_77) hS (fun H locs hR hS => ?_)
    exact g_iret hx hb hr hlocks hR hS hf rfl d_X_act_80
  have hf := cd_f hc26 hf
  have hout : a2.toInt < 0 ∨ 2 < a2.toInt := by
    have := lv_neT (a := 0) hc12 rfl
    have := lv_neT (a := 1) hc19 rfl
    have := lv_neT (a := 2) hc26 rfl
    omega
  refine lv_tableOut (tgt := 81) hx hb d_X_act_23 hout (by decide) ?_
  refine lv_iconst (v := 0) hx hb d_X_act_81 (by decide) ?_
  exact g_iret hx hb hr hlocks hR hS hf rfl d_X_act_82
theorem c_X_act (l : Launch) (D : va_G) (cA : Nat → ClassId) (oc : gO) (B N : Nat) (a0 : Nat) (a1 : Int32) (a2 : Int32) (a3 : Int32) (w : gW) {wz : gW} {r : Int32} (hf : f_X_act N a0 a1 a2 a3 w = some (r, wz)) : Met l y_X_act (Cond.code y_X_act b_X_act 5 (some .int) :: lw_good) ({ frames := 9, cells := 0, slots := 0, locals := 215 } : Room) (gPre D cA oc B [.ref (B + a0), .int a1, .int a2, .int a3] w) (gQi D cA B r wz) 0 0 (gA B) := by
  refine Met.ofW (cc := b_X_act) (maxL := 5) (ret := (some .int)) (by decide +kernel) rfl ?_
  intro p e s m args below meth c s₁ Bd hml hv
  obtain ⟨hargs, C, hR⟩ := gC.enter (l := l) rfl Bd hml hv
  subst hargs
  have hl := lv_entry ([.ref (B + a0), .int a1, .int a2, .int a3]) (n := 5) (Nat.le_of_ble_eq_true rfl)
  rw [lg_entry_eq]
  generalize (lg_sl ([.ref (B + a0), .int a1, .int a2, .int a3]) ++ List.replicate (5 - (lg_sl ([.ref (B + a0), .int a1, .int a2, .int a3])).length) Slot.unset).toArray = ls at hl ⊢
  have hl : lv_has ls 5 [(0, .ref (B + a0)), (1, .int a1), (2, .int a2), (3, .int a3)] := hl
  exact c_X_act_b0 C a0 a1 a2 a3 w (lv_sub hl [0, 1, 2, 3] rfl) hf hR va_S.rf
theorem d_X_trace_0 : decode b_X_trace 0 = .ok (.iload_n 1, 1) := by decide +kernel
theorem d_X_trace_1 : decode b_X_trace 1 = .ok (.ifCond .lt 20, 3) := by decide +kernel
theorem d_X_trace_4 : decode b_X_trace 4 = .ok (.iload_n 1, 1) := by decide +kernel
theorem d_X_trace_5 : decode b_X_trace 5 = .ok (.aload_n 0, 1) := by decide +kernel
theorem d_X_trace_6 : decode b_X_trace 6 = .ok (.getfield 62, 3) := by decide +kernel
theorem d_X_trace_9 : decode b_X_trace 9 = .ok (.getfield 245, 3) := by decide +kernel
theorem d_X_trace_12 : decode b_X_trace 12 = .ok (.if_icmp .ge 9, 3) := by decide +kernel
theorem d_X_trace_15 : decode b_X_trace 15 = .ok (.iload_n 1, 1) := by decide +kernel
theorem d_X_trace_16 : decode b_X_trace 16 = .ok (.bipush 20, 2) := by decide +kernel
theorem d_X_trace_18 : decode b_X_trace 18 = .ok (.if_icmp .lt 5, 3) := by decide +kernel
theorem d_X_trace_21 : decode b_X_trace 21 = .ok (.iconst (-1), 1) := by decide +kernel
theorem d_X_trace_22 : decode b_X_trace 22 = .ok (.ireturn, 1) := by decide +kernel
theorem d_X_trace_23 : decode b_X_trace 23 = .ok (.aload_n 0, 1) := by decide +kernel
theorem d_X_trace_24 : decode b_X_trace 24 = .ok (.getfield 62, 3) := by decide +kernel
theorem d_X_trace_27 : decode b_X_trace 27 = .ok (.getfield 258, 3) := by decide +kernel
theorem d_X_trace_30 : decode b_X_trace 30 = .ok (.iload_n 1, 1) := by decide +kernel
theorem d_X_trace_31 : decode b_X_trace 31 = .ok (.iaload, 1) := by decide +kernel
theorem d_X_trace_32 : decode b_X_trace 32 = .ok (.ireturn, 1) := by decide +kernel
set_option maxRecDepth 20000 in
theorem c_X_trace_b0 {r : Int32} {wz : gW} (C : gC p s m args meth c "RidCoppers" b_X_trace 2 (some .int) D cA oc B) (a0 : Nat) (a1 : Int32) (w : gW) {ls : Array Slot} {H : Heap} {locs : List Loc} (hl : lv_has ls 2 [(0, .ref (B + a0)), (1, .int a1)]) (hf : f_X_trace_b0 N a0 a1 w = some (r, wz)) (hR : gRep D cA B w H) (hS : va_S (gA B) s.heap H locs) : W p l e ({ frames := 1, cells := 0, slots := 0, locals := 40 } : Room) s m args below meth c H locs 0 0 (MQ below (gQi D cA B r wz) args s 0 0 (gA B)) (F0 m 0 ls []) := by
  obtain ⟨hx, hb, hml, hown, hts, hr, hlocks, hK, hBs⟩ := id C
  unfold f_X_trace_b0 at hf
  refine lv_iload_n hx hb d_X_trace_0 rfl (lv_at hl 1 rfl) ?_
  refine lv_if_lt (tgt := 21) hx hb d_X_trace_1 (by decide) (fun hc => ?_) (fun hc => ?_)
  · have hf := cd_t hc hf
    refine lv_iconst (v := (-1)) hx hb d_X_trace_21 (by decide) ?_
    exact g_iret hx hb hr hlocks hR hS hf rfl d_X_trace_22
  have hf := cd_f hc hf
  refine lv_iload_n hx hb d_X_trace_4 rfl (lv_at hl 1 rfl) ?_
  refine lv_aload_n hx hb d_X_trace_5 rfl (lv_at hl 0 rfl) ?_
  have ⟨h1, hf⟩ := gd_e hf
  have ⟨x2, h3, hf⟩ := rr_e hf
  refine g_getR hx hb hts hown hK hR fl_X_62 (fun _ => rfl) h1 h3 d_X_trace_6 ?_
  have ⟨h4, hf⟩ := gd_e hf
  refine g_getI hx hb hts hown hK hR fl_X_245 (fun _ => rfl) h4 d_X_trace_9 ?_
  refine g_nI hf (fun x5 hf => ?_)
  refine lv_icmp_ge (tgt := 21) hx hb d_X_trace_12 (by decide) (fun hc => ?_) (fun hc => ?_)
  · have hf := cd_t hc hf
    refine lv_iconst (v := (-1)) hx hb d_X_trace_21 (by decide) ?_
    exact g_iret hx hb hr hlocks hR hS hf rfl d_X_trace_22
  have hf := cd_f hc hf
  refine lv_iload_n hx hb d_X_trace_15 rfl (lv_at hl 1 rfl) ?_
  refine lv_bipush (v := 20) hx hb d_X_trace_16 (by decide) ?_
  refine lv_icmp_lt (tgt := 23) hx hb d_X_trace_18 (by decide) (fun hc => ?_) (fun hc => ?_)
  · have hf := cd_t hc hf
    refine lv_aload_n hx hb d_X_trace_23 rfl (lv_at hl 0 rfl) ?_
    refine g_getR hx hb hts hown hK hR fl_X_62 (fun _ => rfl) h1 h3 d_X_trace_24 ?_
    have ⟨x6, h7, hf⟩ := rr_e hf
    refine g_getR hx hb hts hown hK hR fl_X_258 (fun _ => rfl) h4 h7 d_X_trace_27 ?_
    refine lv_iload_n hx hb d_X_trace_30 rfl (lv_at hl 1 rfl) ?_
    have ⟨h8, hf⟩ := gd_e hf
    have ⟨h9, hf⟩ := gd_e hf
    refine g_iald hx hb hK hR h8 h9 d_X_trace_31 ?_
    refine g_nI hf (fun x10 hf => ?_)
    exact g_iret hx hb hr hlocks hR hS hf rfl d_X_trace_32
  have hf := cd_f hc hf
  refine lv_iconst (v := (-1)) hx hb d_X_trace_21 (by decide) ?_
  exact g_iret hx hb hr hlocks hR hS hf rfl d_X_trace_22
theorem c_X_trace (l : Launch) (D : va_G) (cA : Nat → ClassId) (oc : gO) (B N : Nat) (a0 : Nat) (a1 : Int32) (w : gW) {wz : gW} {r : Int32} (hf : f_X_trace N a0 a1 w = some (r, wz)) : Met l y_X_trace (Cond.code y_X_trace b_X_trace 2 (some .int) :: lw_good) ({ frames := 1, cells := 0, slots := 0, locals := 40 } : Room) (gPre D cA oc B [.ref (B + a0), .int a1] w) (gQi D cA B r wz) 0 0 (gA B) := by
  refine Met.ofW (cc := b_X_trace) (maxL := 2) (ret := (some .int)) (by decide +kernel) rfl ?_
  intro p e s m args below meth c s₁ Bd hml hv
  obtain ⟨hargs, C, hR⟩ := gC.enter (l := l) rfl Bd hml hv
  subst hargs
  have hl := lv_entry ([.ref (B + a0), .int a1]) (n := 2) (Nat.le_of_ble_eq_true rfl)
  rw [lg_entry_eq]
  generalize (lg_sl ([.ref (B + a0), .int a1]) ++ List.replicate (2 - (lg_sl ([.ref (B + a0), .int a1])).length) Slot.unset).toArray = ls at hl ⊢
  have hl : lv_has ls 2 [(0, .ref (B + a0)), (1, .int a1)] := hl
  exact c_X_trace_b0 C a0 a1 w (lv_sub hl [0, 1] rfl) hf hR va_S.rf
theorem d_X_isOfKind_0 : decode b_X_isOfKind 0 = .ok (.iload_n 1, 1) := by decide +kernel
theorem d_X_isOfKind_1 : decode b_X_isOfKind 1 = .ok (.tableswitch 69 1 6 #[39, 44, 49, 54, 59, 64], 39) := by decide +kernel
theorem d_X_isOfKind_40 : decode b_X_isOfKind 40 = .ok (.aload_n 0, 1) := by decide +kernel
theorem d_X_isOfKind_41 : decode b_X_isOfKind 41 = .ok (.instanceof 279, 3) := by decide +kernel
theorem d_X_isOfKind_44 : decode b_X_isOfKind 44 = .ok (.ireturn, 1) := by decide +kernel
theorem d_X_isOfKind_45 : decode b_X_isOfKind 45 = .ok (.aload_n 0, 1) := by decide +kernel
theorem d_X_isOfKind_46 : decode b_X_isOfKind 46 = .ok (.instanceof 284, 3) := by decide +kernel
theorem d_X_isOfKind_49 : decode b_X_isOfKind 49 = .ok (.ireturn, 1) := by decide +kernel
theorem d_X_isOfKind_50 : decode b_X_isOfKind 50 = .ok (.aload_n 0, 1) := by decide +kernel
theorem d_X_isOfKind_51 : decode b_X_isOfKind 51 = .ok (.instanceof 287, 3) := by decide +kernel
theorem d_X_isOfKind_54 : decode b_X_isOfKind 54 = .ok (.ireturn, 1) := by decide +kernel
theorem d_X_isOfKind_55 : decode b_X_isOfKind 55 = .ok (.aload_n 0, 1) := by decide +kernel
theorem d_X_isOfKind_56 : decode b_X_isOfKind 56 = .ok (.instanceof 290, 3) := by decide +kernel
theorem d_X_isOfKind_59 : decode b_X_isOfKind 59 = .ok (.ireturn, 1) := by decide +kernel
theorem d_X_isOfKind_60 : decode b_X_isOfKind 60 = .ok (.aload_n 0, 1) := by decide +kernel
theorem d_X_isOfKind_61 : decode b_X_isOfKind 61 = .ok (.instanceof 295, 3) := by decide +kernel
theorem d_X_isOfKind_64 : decode b_X_isOfKind 64 = .ok (.ireturn, 1) := by decide +kernel
theorem d_X_isOfKind_65 : decode b_X_isOfKind 65 = .ok (.aload_n 0, 1) := by decide +kernel
theorem d_X_isOfKind_66 : decode b_X_isOfKind 66 = .ok (.instanceof 298, 3) := by decide +kernel
theorem d_X_isOfKind_69 : decode b_X_isOfKind 69 = .ok (.ireturn, 1) := by decide +kernel
theorem d_X_isOfKind_70 : decode b_X_isOfKind 70 = .ok (.iload_n 1, 1) := by decide +kernel
theorem d_X_isOfKind_71 : decode b_X_isOfKind 71 = .ok (.ifCond .ne 7, 3) := by decide +kernel
theorem d_X_isOfKind_74 : decode b_X_isOfKind 74 = .ok (.iconst 1, 1) := by decide +kernel
theorem d_X_isOfKind_75 : decode b_X_isOfKind 75 = .ok (.goto 4, 3) := by decide +kernel
theorem d_X_isOfKind_78 : decode b_X_isOfKind 78 = .ok (.iconst 0, 1) := by decide +kernel
theorem d_X_isOfKind_79 : decode b_X_isOfKind 79 = .ok (.ireturn, 1) := by decide +kernel
set_option maxRecDepth 20000 in
theorem c_X_isOfKind_b0 {r : Int32} {wz : gW} (C : gC p s m args meth c "RidCoppers" b_X_isOfKind 2 (some .boolean) D cA oc B) (a0 : Nat) (a1 : Int32) (w : gW) {ls : Array Slot} {H : Heap} {locs : List Loc} (hl : lv_has ls 2 [(0, .ref (B + a0)), (1, .int a1)]) (hf : f_X_isOfKind_b0 N a0 a1 w = some (r, wz)) (hR : gRep D cA B w H) (hS : va_S (gA B) s.heap H locs) : W p l e ({ frames := 1, cells := 0, slots := 0, locals := 40 } : Room) s m args below meth c H locs 0 0 (MQ below (gQi D cA B r wz) args s 0 0 (gA B)) (F0 m 0 ls []) := by
  obtain ⟨hx, hb, hml, hown, hts, hr, hlocks, hK, hBs⟩ := id C
  unfold f_X_isOfKind_b0 at hf
  refine lv_iload_n hx hb d_X_isOfKind_0 rfl (lv_at hl 1 rfl) ?_
  by_cases hc1 : a1 = 1
  · refine lv_tableIn (off := 39) (tgt := 40) hx hb d_X_isOfKind_1 (by rw [hc1]; decide) (by rw [hc1]; decide) (by rw [hc1]; rfl) (by decide) ?_
    have hf := cd_t hc1 hf
    refine lv_aload_n hx hb d_X_isOfKind_40 rfl (lv_at hl 0 rfl) ?_
    have ⟨h2, hf⟩ := gd_e hf
    refine g_instE hx hb hts hown hK hR m_281 h2 d_X_isOfKind_41 ?_
    refine g_nI hf (fun x3 hf => ?_)
    have ⟨h4, hf⟩ := gd_e hf
    exact g_iret hx hb hr hlocks hR hS hf (nb01 h4) d_X_isOfKind_44
  have hf := cd_f hc1 hf
  by_cases hc5 : a1 = 2
  · refine lv_tableIn (off := 44) (tgt := 45) hx hb d_X_isOfKind_1 (by rw [hc5]; decide) (by rw [hc5]; decide) (by rw [hc5]; rfl) (by decide) ?_
    have hf := cd_t hc5 hf
    refine lv_aload_n hx hb d_X_isOfKind_45 rfl (lv_at hl 0 rfl) ?_
    have ⟨h6, hf⟩ := gd_e hf
    refine g_instRo hx hb hts hown hK hR m_313 h6 d_X_isOfKind_46 ?_
    refine g_nI hf (fun x7 hf => ?_)
    have ⟨h8, hf⟩ := gd_e hf
    exact g_iret hx hb hr hlocks hR hS hf (nb01 h8) d_X_isOfKind_49
  have hf := cd_f hc5 hf
  by_cases hc9 : a1 = 3
  · refine lv_tableIn (off := 49) (tgt := 50) hx hb d_X_isOfKind_1 (by rw [hc9]; decide) (by rw [hc9]; decide) (by rw [hc9]; rfl) (by decide) ?_
    have hf := cd_t hc9 hf
    refine lv_aload_n hx hb d_X_isOfKind_50 rfl (lv_at hl 0 rfl) ?_
    have ⟨h10, hf⟩ := gd_e hf
    refine g_instKe hx hb hts hown hK hR m_323 h10 d_X_isOfKind_51 ?_
    refine g_nI hf (fun x11 hf => ?_)
    have ⟨h12, hf⟩ := gd_e hf
    exact g_iret hx hb hr hlocks hR hS hf (nb01 h12) d_X_isOfKind_54
  have hf := cd_f hc9 hf
  by_cases hc13 : a1 = 4
  · refine lv_tableIn (off := 54) (tgt := 55) hx hb d_X_isOfKind_1 (by rw [hc13]; decide) (by rw [hc13]; decide) (by rw [hc13]; rfl) (by decide) ?_
    have hf := cd_t hc13 hf
    refine lv_aload_n hx hb d_X_isOfKind_55 rfl (lv_at hl 0 rfl) ?_
    have ⟨h14, hf⟩ := gd_e hf
    refine g_instLi hx hb hts hown hK hR m_333 h14 d_X_isOfKind_56 ?_
    refine g_nI hf (fun x15 hf => ?_)
    have ⟨h16, hf⟩ := gd_e hf
    exact g_iret hx hb hr hlocks hR hS hf (nb01 h16) d_X_isOfKind_59
  have hf := cd_f hc13 hf
  by_cases hc17 : a1 = 5
  · refine lv_tableIn (off := 59) (tgt := 60) hx hb d_X_isOfKind_1 (by rw [hc17]; decide) (by rw [hc17]; decide) (by rw [hc17]; rfl) (by decide) ?_
    have hf := cd_t hc17 hf
    refine lv_aload_n hx hb d_X_isOfKind_60 rfl (lv_at hl 0 rfl) ?_
    have ⟨h18, hf⟩ := gd_e hf
    refine g_instWi hx hb hts hown hK hR m_343 h18 d_X_isOfKind_61 ?_
    refine g_nI hf (fun x19 hf => ?_)
    have ⟨h20, hf⟩ := gd_e hf
    exact g_iret hx hb hr hlocks hR hS hf (nb01 h20) d_X_isOfKind_64
  have hf := cd_f hc17 hf
  by_cases hc21 : a1 = 6
  · refine lv_tableIn (off := 64) (tgt := 65) hx hb d_X_isOfKind_1 (by rw [hc21]; decide) (by rw [hc21]; decide) (by rw [hc21]; rfl) (by decide) ?_
    have hf := cd_t hc21 hf
    refine lv_aload_n hx hb d_X_isOfKind_65 rfl (lv_at hl 0 rfl) ?_
    have ⟨h22, hf⟩ := gd_e hf
    refine g_instTo hx hb hts hown hK hR m_353 h22 d_X_isOfKind_66 ?_
    refine g_nI hf (fun x23 hf => ?_)
    have ⟨h24, hf⟩ := gd_e hf
    exact g_iret hx hb hr hlocks hR hS hf (nb01 h24) d_X_isOfKind_69
  have hf := cd_f hc21 hf
  have hout : a1.toInt < 1 ∨ 6 < a1.toInt := by
    have := lv_neT (a := 1) hc1 rfl
    have := lv_neT (a := 2) hc5 rfl
    have := lv_neT (a := 3) hc9 rfl
    have := lv_neT (a := 4) hc13 rfl
    have := lv_neT (a := 5) hc17 rfl
    have := lv_neT (a := 6) hc21 rfl
    omega
  refine lv_tableOut (tgt := 70) hx hb d_X_isOfKind_1 hout (by decide) ?_
  refine lv_iload_n hx hb d_X_isOfKind_70 rfl (lv_at hl 1 rfl) ?_
  refine lv_if_ne (tgt := 78) hx hb d_X_isOfKind_71 (by decide) (fun hc => ?_) (fun hc => ?_)
  · have hf := cd_f hc hf
    refine lv_iconst (v := 0) hx hb d_X_isOfKind_78 (by decide) ?_
    exact g_iret hx hb hr hlocks hR hS hf rfl d_X_isOfKind_79
  have hf := cd_t hc hf
  refine lv_iconst (v := 1) hx hb d_X_isOfKind_74 (by decide) ?_
  refine lv_goto (tgt := 79) hx hb d_X_isOfKind_75 (by decide) ?_
  exact g_iret hx hb hr hlocks hR hS hf rfl d_X_isOfKind_79
theorem c_X_isOfKind (l : Launch) (D : va_G) (cA : Nat → ClassId) (oc : gO) (B N : Nat) (a0 : Nat) (a1 : Int32) (w : gW) {wz : gW} {r : Int32} (hf : f_X_isOfKind N a0 a1 w = some (r, wz)) : Met l y_X_isOfKind (Cond.code y_X_isOfKind b_X_isOfKind 2 (some .boolean) :: lw_good) ({ frames := 1, cells := 0, slots := 0, locals := 40 } : Room) (gPre D cA oc B [.ref (B + a0), .int a1] w) (gQi D cA B r wz) 0 0 (gA B) := by
  refine Met.ofW (cc := b_X_isOfKind) (maxL := 2) (ret := (some .boolean)) (by decide +kernel) rfl ?_
  intro p e s m args below meth c s₁ Bd hml hv
  obtain ⟨hargs, C, hR⟩ := gC.enter (l := l) rfl Bd hml hv
  subst hargs
  have hl := lv_entry ([.ref (B + a0), .int a1]) (n := 2) (Nat.le_of_ble_eq_true rfl)
  rw [lg_entry_eq]
  generalize (lg_sl ([.ref (B + a0), .int a1]) ++ List.replicate (2 - (lg_sl ([.ref (B + a0), .int a1])).length) Slot.unset).toArray = ls at hl ⊢
  have hl : lv_has ls 2 [(0, .ref (B + a0)), (1, .int a1)] := hl
  exact c_X_isOfKind_b0 C a0 a1 w (lv_sub hl [0, 1] rfl) hf hR va_S.rf
theorem d_X_taken_0 : decode b_X_taken 0 = .ok (.iload_n 2, 1) := by decide +kernel
theorem d_X_taken_1 : decode b_X_taken 1 = .ok (.ifCond .lt 9, 3) := by decide +kernel
theorem d_X_taken_4 : decode b_X_taken 4 = .ok (.iload_n 2, 1) := by decide +kernel
theorem d_X_taken_5 : decode b_X_taken 5 = .ok (.bipush 7, 2) := by decide +kernel
theorem d_X_taken_7 : decode b_X_taken 7 = .ok (.if_icmp .lt 6, 3) := by decide +kernel
theorem d_X_taken_10 : decode b_X_taken 10 = .ok (.bipush (-2), 2) := by decide +kernel
theorem d_X_taken_12 : decode b_X_taken 12 = .ok (.ireturn, 1) := by decide +kernel
theorem d_X_taken_13 : decode b_X_taken 13 = .ok (.aload_n 0, 1) := by decide +kernel
theorem d_X_taken_14 : decode b_X_taken 14 = .ok (.iload_n 1, 1) := by decide +kernel
theorem d_X_taken_15 : decode b_X_taken 15 = .ok (.invokevirtual 92, 3) := by decide +kernel
theorem d_X_taken_18 : decode b_X_taken 18 = .ok (.astore_n 3, 1) := by decide +kernel
theorem d_X_taken_19 : decode b_X_taken 19 = .ok (.aload_n 3, 1) := by decide +kernel
theorem d_X_taken_20 : decode b_X_taken 20 = .ok (.ifnonnull 6, 3) := by decide +kernel
theorem d_X_taken_23 : decode b_X_taken 23 = .ok (.bipush (-11), 2) := by decide +kernel
theorem d_X_taken_25 : decode b_X_taken 25 = .ok (.ireturn, 1) := by decide +kernel
theorem d_X_taken_26 : decode b_X_taken 26 = .ok (.aload_n 3, 1) := by decide +kernel
theorem d_X_taken_27 : decode b_X_taken 27 = .ok (.iload_n 2, 1) := by decide +kernel
theorem d_X_taken_28 : decode b_X_taken 28 = .ok (.invokestatic 261, 3) := by decide +kernel
theorem d_X_taken_31 : decode b_X_taken 31 = .ok (.ifCond .eq 10, 3) := by decide +kernel
theorem d_X_taken_34 : decode b_X_taken 34 = .ok (.aload_n 3, 1) := by decide +kernel
theorem d_X_taken_35 : decode b_X_taken 35 = .ok (.getfield 111, 3) := by decide +kernel
theorem d_X_taken_38 : decode b_X_taken 38 = .ok (.goto 5, 3) := by decide +kernel
theorem d_X_taken_41 : decode b_X_taken 41 = .ok (.bipush (-12), 2) := by decide +kernel
theorem d_X_taken_43 : decode b_X_taken 43 = .ok (.ireturn, 1) := by decide +kernel
set_option maxRecDepth 20000 in
theorem c_X_taken_b0 {r : Int32} {wz : gW} (C : gC p s m args meth c "RidCoppers" b_X_taken 4 (some .int) D cA oc B) (a0 : Nat) (a1 : Int32) (a2 : Int32) (w : gW) {ls : Array Slot} {H : Heap} {locs : List Loc} (hl : lv_has ls 4 [(0, .ref (B + a0)), (1, .int a1), (2, .int a2)]) (hf : f_X_taken_b0 N a0 a1 a2 w = some (r, wz)) (hR : gRep D cA B w H) (hS : va_S (gA B) s.heap H locs) : W p l e ({ frames := 2, cells := 0, slots := 0, locals := 61 } : Room) s m args below meth c H locs 0 0 (MQ below (gQi D cA B r wz) args s 0 0 (gA B)) (F0 m 0 ls []) := by
  obtain ⟨hx, hb, hml, hown, hts, hr, hlocks, hK, hBs⟩ := id C
  unfold f_X_taken_b0 at hf
  refine lv_iload_n hx hb d_X_taken_0 rfl (lv_at hl 2 rfl) ?_
  refine lv_if_lt (tgt := 10) hx hb d_X_taken_1 (by decide) (fun hc => ?_) (fun hc => ?_)
  · have hf := cd_t hc hf
    refine lv_bipush (v := (-2)) hx hb d_X_taken_10 (by decide) ?_
    exact g_iret hx hb hr hlocks hR hS hf rfl d_X_taken_12
  have hf := cd_f hc hf
  refine lv_iload_n hx hb d_X_taken_4 rfl (lv_at hl 2 rfl) ?_
  refine lv_bipush (v := 7) hx hb d_X_taken_5 (by decide) ?_
  refine lv_icmp_lt (tgt := 13) hx hb d_X_taken_7 (by decide) (fun hc => ?_) (fun hc => ?_)
  · have hf := cd_t hc hf
    refine lv_aload_n hx hb d_X_taken_13 rfl (lv_at hl 0 rfl) ?_
    refine lv_iload_n hx hb d_X_taken_14 rfl (lv_at hl 1 rfl) ?_
    have ⟨h4, hf⟩ := gd_e hf
    have ⟨x1, w2, h3, hf⟩ := kl_e hf
    refine g_kr0 (g_rV (As := [.int a1]) (rest := []) hx hb hml hown hts hK hR hS (c_X_payerAt l D cA oc B N a0 a1 w h3) I_X_payerAt m_374 mp_0 (gRecv hK hR (ci := 11) rfl h4) rfl rfl (Nat.le_of_ble_eq_true rfl) hl.1 ⟨Nat.le_of_ble_eq_true rfl, Nat.le_of_ble_eq_true rfl⟩ ⟨Nat.le_of_ble_eq_true rfl, Nat.le_of_ble_eq_true rfl⟩ d_X_taken_15) hS (fun H locs hR hS => ?_)
    rcases x1 with _ | x5
    · have hf := nr_n hf
      refine lv_astore_nN (lv' := [(3, .null), (0, .ref (B + a0)), (1, .int a1), (2, .int a2)]) hx hb d_X_taken_18 rfl hl (by decide) rfl (fun ls hl => ?_)
      refine lv_aload_nN hx hb d_X_taken_19 rfl (lv_at hl 0 rfl) ?_
      refine lv_ifnonnullN hx hb d_X_taken_20 ?_
      refine lv_bipush (v := (-11)) hx hb d_X_taken_23 (by decide) ?_
      exact g_iret hx hb hr hlocks hR hS hf rfl d_X_taken_25
    have hf := nr_s hf
    refine lv_astore_n (lv' := [(3, .ref (B + x5)), (0, .ref (B + a0)), (1, .int a1), (2, .int a2)]) hx hb d_X_taken_18 rfl hl (by decide) rfl (fun ls hl => ?_)
    refine lv_aload_n hx hb d_X_taken_19 rfl (lv_at hl 0 rfl) ?_
    refine lv_ifnonnull (tgt := 26) hx hb d_X_taken_20 (by decide) ?_
    refine lv_aload_n hx hb d_X_taken_26 rfl (lv_at hl 0 rfl) ?_
    refine lv_iload_n hx hb d_X_taken_27 rfl (lv_at hl 3 rfl) ?_
    have ⟨x7, w8, h9, hf⟩ := kl_e hf
    refine g_ki0 (g_rS (As := [.ref (B + x5), .int a2]) (rest := []) hx hb hml hown hts hK hR hS (c_X_isOfKind l D cA oc B N x5 a2 w2 h9) I_X_isOfKind m_946 rfl rfl (Nat.le_of_ble_eq_true rfl) hl.1 ⟨Nat.le_of_ble_eq_true rfl, Nat.le_of_ble_eq_true rfl⟩ ⟨Nat.le_of_ble_eq_true rfl, Nat.le_of_ble_eq_true rfl⟩ d_X_taken_28) hS (fun H locs hR hS => ?_)
    refine lv_if_eq (tgt := 41) hx hb d_X_taken_31 (by decide) (fun hc => ?_) (fun hc => ?_)
    · have hf := cd_t hc hf
      refine lv_bipush (v := (-12)) hx hb d_X_taken_41 (by decide) ?_
      exact g_iret hx hb hr hlocks hR hS hf rfl d_X_taken_43
    have hf := cd_f hc hf
    refine lv_aload_n hx hb d_X_taken_34 rfl (lv_at hl 0 rfl) ?_
    have ⟨h10, hf⟩ := gd_e hf
    refine g_getI hx hb hts hown hK hR (flP_X_111 _ h10) (payv h10) rfl d_X_taken_35 ?_
    refine g_nI hf (fun x11 hf => ?_)
    refine lv_goto (tgt := 43) hx hb d_X_taken_38 (by decide) ?_
    exact g_iret hx hb hr hlocks hR hS hf rfl d_X_taken_43
  have hf := cd_f hc hf
  refine lv_bipush (v := (-2)) hx hb d_X_taken_10 (by decide) ?_
  exact g_iret hx hb hr hlocks hR hS hf rfl d_X_taken_12
theorem c_X_taken (l : Launch) (D : va_G) (cA : Nat → ClassId) (oc : gO) (B N : Nat) (a0 : Nat) (a1 : Int32) (a2 : Int32) (w : gW) {wz : gW} {r : Int32} (hf : f_X_taken N a0 a1 a2 w = some (r, wz)) : Met l y_X_taken (Cond.code y_X_taken b_X_taken 4 (some .int) :: lw_good) ({ frames := 2, cells := 0, slots := 0, locals := 61 } : Room) (gPre D cA oc B [.ref (B + a0), .int a1, .int a2] w) (gQi D cA B r wz) 0 0 (gA B) := by
  refine Met.ofW (cc := b_X_taken) (maxL := 4) (ret := (some .int)) (by decide +kernel) rfl ?_
  intro p e s m args below meth c s₁ Bd hml hv
  obtain ⟨hargs, C, hR⟩ := gC.enter (l := l) rfl Bd hml hv
  subst hargs
  have hl := lv_entry ([.ref (B + a0), .int a1, .int a2]) (n := 4) (Nat.le_of_ble_eq_true rfl)
  rw [lg_entry_eq]
  generalize (lg_sl ([.ref (B + a0), .int a1, .int a2]) ++ List.replicate (4 - (lg_sl ([.ref (B + a0), .int a1, .int a2])).length) Slot.unset).toArray = ls at hl ⊢
  have hl : lv_has ls 4 [(0, .ref (B + a0)), (1, .int a1), (2, .int a2)] := hl
  exact c_X_taken_b0 C a0 a1 a2 w (lv_sub hl [0, 1, 2] rfl) hf hR va_S.rf
theorem d_X_count_0 : decode b_X_count 0 = .ok (.iload_n 1, 1) := by decide +kernel
theorem d_X_count_1 : decode b_X_count 1 = .ok (.tableswitch 93 0 6 #[43, 51, 56, 64, 72, 80, 85], 43) := by decide +kernel
theorem d_X_count_44 : decode b_X_count 44 = .ok (.aload_n 0, 1) := by decide +kernel
theorem d_X_count_45 : decode b_X_count 45 = .ok (.getfield 23, 3) := by decide +kernel
theorem d_X_count_48 : decode b_X_count 48 = .ok (.getfield 81, 3) := by decide +kernel
theorem d_X_count_51 : decode b_X_count 51 = .ok (.ireturn, 1) := by decide +kernel
theorem d_X_count_52 : decode b_X_count 52 = .ok (.aload_n 0, 1) := by decide +kernel
theorem d_X_count_53 : decode b_X_count 53 = .ok (.getfield 48, 3) := by decide +kernel
theorem d_X_count_56 : decode b_X_count 56 = .ok (.ireturn, 1) := by decide +kernel
theorem d_X_count_57 : decode b_X_count 57 = .ok (.aload_n 0, 1) := by decide +kernel
theorem d_X_count_58 : decode b_X_count 58 = .ok (.getfield 23, 3) := by decide +kernel
theorem d_X_count_61 : decode b_X_count 61 = .ok (.getfield 182, 3) := by decide +kernel
theorem d_X_count_64 : decode b_X_count 64 = .ok (.ireturn, 1) := by decide +kernel
theorem d_X_count_65 : decode b_X_count 65 = .ok (.aload_n 0, 1) := by decide +kernel
theorem d_X_count_66 : decode b_X_count 66 = .ok (.getfield 23, 3) := by decide +kernel
theorem d_X_count_69 : decode b_X_count 69 = .ok (.getfield 214, 3) := by decide +kernel
theorem d_X_count_72 : decode b_X_count 72 = .ok (.ireturn, 1) := by decide +kernel
theorem d_X_count_73 : decode b_X_count 73 = .ok (.aload_n 0, 1) := by decide +kernel
theorem d_X_count_74 : decode b_X_count 74 = .ok (.getfield 23, 3) := by decide +kernel
theorem d_X_count_77 : decode b_X_count 77 = .ok (.getfield 233, 3) := by decide +kernel
theorem d_X_count_80 : decode b_X_count 80 = .ok (.ireturn, 1) := by decide +kernel
theorem d_X_count_81 : decode b_X_count 81 = .ok (.aload_n 0, 1) := by decide +kernel
theorem d_X_count_82 : decode b_X_count 82 = .ok (.getfield 56, 3) := by decide +kernel
theorem d_X_count_85 : decode b_X_count 85 = .ok (.ireturn, 1) := by decide +kernel
theorem d_X_count_86 : decode b_X_count 86 = .ok (.aload_n 0, 1) := by decide +kernel
theorem d_X_count_87 : decode b_X_count 87 = .ok (.getfield 62, 3) := by decide +kernel
theorem d_X_count_90 : decode b_X_count 90 = .ok (.getfield 245, 3) := by decide +kernel
theorem d_X_count_93 : decode b_X_count 93 = .ok (.ireturn, 1) := by decide +kernel
theorem d_X_count_94 : decode b_X_count 94 = .ok (.bipush (-2), 2) := by decide +kernel
theorem d_X_count_96 : decode b_X_count 96 = .ok (.ireturn, 1) := by decide +kernel
set_option maxRecDepth 20000 in
theorem c_X_count_b0 {r : Int32} {wz : gW} (C : gC p s m args meth c "RidCoppers" b_X_count 2 (some .int) D cA oc B) (a0 : Nat) (a1 : Int32) (w : gW) {ls : Array Slot} {H : Heap} {locs : List Loc} (hl : lv_has ls 2 [(0, .ref (B + a0)), (1, .int a1)]) (hf : f_X_count_b0 N a0 a1 w = some (r, wz)) (hR : gRep D cA B w H) (hS : va_S (gA B) s.heap H locs) : W p l e ({ frames := 1, cells := 0, slots := 0, locals := 40 } : Room) s m args below meth c H locs 0 0 (MQ below (gQi D cA B r wz) args s 0 0 (gA B)) (F0 m 0 ls []) := by
  obtain ⟨hx, hb, hml, hown, hts, hr, hlocks, hK, hBs⟩ := id C
  unfold f_X_count_b0 at hf
  refine lv_iload_n hx hb d_X_count_0 rfl (lv_at hl 1 rfl) ?_
  by_cases hc1 : a1 = 0
  · refine lv_tableIn (off := 43) (tgt := 44) hx hb d_X_count_1 (by rw [hc1]; decide) (by rw [hc1]; decide) (by rw [hc1]; rfl) (by decide) ?_
    have hf := cd_t hc1 hf
    refine lv_aload_n hx hb d_X_count_44 rfl (lv_at hl 0 rfl) ?_
    have ⟨h2, hf⟩ := gd_e hf
    have ⟨x3, h4, hf⟩ := rr_e hf
    refine g_getR hx hb hts hown hK hR fl_X_23 (fun _ => rfl) h2 h4 d_X_count_45 ?_
    have ⟨h5, hf⟩ := gd_e hf
    refine g_getI hx hb hts hown hK hR fl_X_81 (fun _ => rfl) h5 d_X_count_48 ?_
    refine g_nI hf (fun x6 hf => ?_)
    exact g_iret hx hb hr hlocks hR hS hf rfl d_X_count_51
  have hf := cd_f hc1 hf
  by_cases hc7 : a1 = 1
  · refine lv_tableIn (off := 51) (tgt := 52) hx hb d_X_count_1 (by rw [hc7]; decide) (by rw [hc7]; decide) (by rw [hc7]; rfl) (by decide) ?_
    have hf := cd_t hc7 hf
    refine lv_aload_n hx hb d_X_count_52 rfl (lv_at hl 0 rfl) ?_
    have ⟨h8, hf⟩ := gd_e hf
    refine g_getI hx hb hts hown hK hR fl_X_48 (fun _ => rfl) h8 d_X_count_53 ?_
    refine g_nI hf (fun x9 hf => ?_)
    exact g_iret hx hb hr hlocks hR hS hf rfl d_X_count_56
  have hf := cd_f hc7 hf
  by_cases hc10 : a1 = 2
  · refine lv_tableIn (off := 56) (tgt := 57) hx hb d_X_count_1 (by rw [hc10]; decide) (by rw [hc10]; decide) (by rw [hc10]; rfl) (by decide) ?_
    have hf := cd_t hc10 hf
    refine lv_aload_n hx hb d_X_count_57 rfl (lv_at hl 0 rfl) ?_
    have ⟨h11, hf⟩ := gd_e hf
    have ⟨x12, h13, hf⟩ := rr_e hf
    refine g_getR hx hb hts hown hK hR fl_X_23 (fun _ => rfl) h11 h13 d_X_count_58 ?_
    have ⟨h14, hf⟩ := gd_e hf
    refine g_getI hx hb hts hown hK hR fl_X_182 (fun _ => rfl) h14 d_X_count_61 ?_
    refine g_nI hf (fun x15 hf => ?_)
    exact g_iret hx hb hr hlocks hR hS hf rfl d_X_count_64
  have hf := cd_f hc10 hf
  by_cases hc16 : a1 = 3
  · refine lv_tableIn (off := 64) (tgt := 65) hx hb d_X_count_1 (by rw [hc16]; decide) (by rw [hc16]; decide) (by rw [hc16]; rfl) (by decide) ?_
    have hf := cd_t hc16 hf
    refine lv_aload_n hx hb d_X_count_65 rfl (lv_at hl 0 rfl) ?_
    have ⟨h17, hf⟩ := gd_e hf
    have ⟨x18, h19, hf⟩ := rr_e hf
    refine g_getR hx hb hts hown hK hR fl_X_23 (fun _ => rfl) h17 h19 d_X_count_66 ?_
    have ⟨h20, hf⟩ := gd_e hf
    refine g_getI hx hb hts hown hK hR fl_X_214 (fun _ => rfl) h20 d_X_count_69 ?_
    refine g_nI hf (fun x21 hf => ?_)
    exact g_iret hx hb hr hlocks hR hS hf rfl d_X_count_72
  have hf := cd_f hc16 hf
  by_cases hc22 : a1 = 4
  · refine lv_tableIn (off := 72) (tgt := 73) hx hb d_X_count_1 (by rw [hc22]; decide) (by rw [hc22]; decide) (by rw [hc22]; rfl) (by decide) ?_
    have hf := cd_t hc22 hf
    refine lv_aload_n hx hb d_X_count_73 rfl (lv_at hl 0 rfl) ?_
    have ⟨h23, hf⟩ := gd_e hf
    have ⟨x24, h25, hf⟩ := rr_e hf
    refine g_getR hx hb hts hown hK hR fl_X_23 (fun _ => rfl) h23 h25 d_X_count_74 ?_
    have ⟨h26, hf⟩ := gd_e hf
    refine g_getI hx hb hts hown hK hR fl_X_233 (fun _ => rfl) h26 d_X_count_77 ?_
    refine g_nI hf (fun x27 hf => ?_)
    exact g_iret hx hb hr hlocks hR hS hf rfl d_X_count_80
  have hf := cd_f hc22 hf
  by_cases hc28 : a1 = 5
  · refine lv_tableIn (off := 80) (tgt := 81) hx hb d_X_count_1 (by rw [hc28]; decide) (by rw [hc28]; decide) (by rw [hc28]; rfl) (by decide) ?_
    have hf := cd_t hc28 hf
    refine lv_aload_n hx hb d_X_count_81 rfl (lv_at hl 0 rfl) ?_
    have ⟨h29, hf⟩ := gd_e hf
    refine g_getI hx hb hts hown hK hR fl_X_56 (fun _ => rfl) h29 d_X_count_82 ?_
    refine g_nI hf (fun x30 hf => ?_)
    exact g_iret hx hb hr hlocks hR hS hf rfl d_X_count_85
  have hf := cd_f hc28 hf
  by_cases hc31 : a1 = 6
  · refine lv_tableIn (off := 85) (tgt := 86) hx hb d_X_count_1 (by rw [hc31]; decide) (by rw [hc31]; decide) (by rw [hc31]; rfl) (by decide) ?_
    have hf := cd_t hc31 hf
    refine lv_aload_n hx hb d_X_count_86 rfl (lv_at hl 0 rfl) ?_
    have ⟨h32, hf⟩ := gd_e hf
    have ⟨x33, h34, hf⟩ := rr_e hf
    refine g_getR hx hb hts hown hK hR fl_X_62 (fun _ => rfl) h32 h34 d_X_count_87 ?_
    have ⟨h35, hf⟩ := gd_e hf
    refine g_getI hx hb hts hown hK hR fl_X_245 (fun _ => rfl) h35 d_X_count_90 ?_
    refine g_nI hf (fun x36 hf => ?_)
    exact g_iret hx hb hr hlocks hR hS hf rfl d_X_count_93
  have hf := cd_f hc31 hf
  have hout : a1.toInt < 0 ∨ 6 < a1.toInt := by
    have := lv_neT (a := 0) hc1 rfl
    have := lv_neT (a := 1) hc7 rfl
    have := lv_neT (a := 2) hc10 rfl
    have := lv_neT (a := 3) hc16 rfl
    have := lv_neT (a := 4) hc22 rfl
    have := lv_neT (a := 5) hc28 rfl
    have := lv_neT (a := 6) hc31 rfl
    omega
  refine lv_tableOut (tgt := 94) hx hb d_X_count_1 hout (by decide) ?_
  refine lv_bipush (v := (-2)) hx hb d_X_count_94 (by decide) ?_
  exact g_iret hx hb hr hlocks hR hS hf rfl d_X_count_96
theorem c_X_count (l : Launch) (D : va_G) (cA : Nat → ClassId) (oc : gO) (B N : Nat) (a0 : Nat) (a1 : Int32) (w : gW) {wz : gW} {r : Int32} (hf : f_X_count N a0 a1 w = some (r, wz)) : Met l y_X_count (Cond.code y_X_count b_X_count 2 (some .int) :: lw_good) ({ frames := 1, cells := 0, slots := 0, locals := 40 } : Room) (gPre D cA oc B [.ref (B + a0), .int a1] w) (gQi D cA B r wz) 0 0 (gA B) := by
  refine Met.ofW (cc := b_X_count) (maxL := 2) (ret := (some .int)) (by decide +kernel) rfl ?_
  intro p e s m args below meth c s₁ Bd hml hv
  obtain ⟨hargs, C, hR⟩ := gC.enter (l := l) rfl Bd hml hv
  subst hargs
  have hl := lv_entry ([.ref (B + a0), .int a1]) (n := 2) (Nat.le_of_ble_eq_true rfl)
  rw [lg_entry_eq]
  generalize (lg_sl ([.ref (B + a0), .int a1]) ++ List.replicate (2 - (lg_sl ([.ref (B + a0), .int a1])).length) Slot.unset).toArray = ls at hl ⊢
  have hl : lv_has ls 2 [(0, .ref (B + a0)), (1, .int a1)] := hl
  exact c_X_count_b0 C a0 a1 w (lv_sub hl [0, 1] rfl) hf hR va_S.rf
theorem d_X_tape_0 : decode b_X_tape 0 = .ok (.iload_n 1, 1) := by decide +kernel
theorem d_X_tape_1 : decode b_X_tape 1 = .ok (.invokestatic 242, 3) := by decide +kernel
theorem d_X_tape_4 : decode b_X_tape 4 = .ok (.ifCond .ne 5, 3) := by decide +kernel
theorem d_X_tape_7 : decode b_X_tape 7 = .ok (.iconst (-1), 1) := by decide +kernel
theorem d_X_tape_8 : decode b_X_tape 8 = .ok (.ireturn, 1) := by decide +kernel
theorem d_X_tape_9 : decode b_X_tape 9 = .ok (.iload_n 2, 1) := by decide +kernel
theorem d_X_tape_10 : decode b_X_tape 10 = .ok (.iconst (-1), 1) := by decide +kernel
theorem d_X_tape_11 : decode b_X_tape 11 = .ok (.if_icmp .ne 19, 3) := by decide +kernel
theorem d_X_tape_14 : decode b_X_tape 14 = .ok (.aload_n 0, 1) := by decide +kernel
theorem d_X_tape_15 : decode b_X_tape 15 = .ok (.getfield 66, 3) := by decide +kernel
theorem d_X_tape_18 : decode b_X_tape 18 = .ok (.iload_n 1, 1) := by decide +kernel
theorem d_X_tape_19 : decode b_X_tape 19 = .ok (.iconst (-1), 1) := by decide +kernel
theorem d_X_tape_20 : decode b_X_tape 20 = .ok (.iastore, 1) := by decide +kernel
theorem d_X_tape_21 : decode b_X_tape 21 = .ok (.aload_n 0, 1) := by decide +kernel
theorem d_X_tape_22 : decode b_X_tape 22 = .ok (.getfield 70, 3) := by decide +kernel
theorem d_X_tape_25 : decode b_X_tape 25 = .ok (.iload_n 1, 1) := by decide +kernel
theorem d_X_tape_26 : decode b_X_tape 26 = .ok (.iconst 0, 1) := by decide +kernel
theorem d_X_tape_27 : decode b_X_tape 27 = .ok (.iastore, 1) := by decide +kernel
theorem d_X_tape_28 : decode b_X_tape 28 = .ok (.iconst 1, 1) := by decide +kernel
theorem d_X_tape_29 : decode b_X_tape 29 = .ok (.ireturn, 1) := by decide +kernel
theorem d_X_tape_30 : decode b_X_tape 30 = .ok (.iload_n 2, 1) := by decide +kernel
theorem d_X_tape_31 : decode b_X_tape 31 = .ok (.ifCond .lt 14, 3) := by decide +kernel
theorem d_X_tape_34 : decode b_X_tape 34 = .ok (.iload_n 2, 1) := by decide +kernel
theorem d_X_tape_35 : decode b_X_tape 35 = .ok (.iconst 4, 1) := by decide +kernel
theorem d_X_tape_36 : decode b_X_tape 36 = .ok (.if_icmp .gt 9, 3) := by decide +kernel
theorem d_X_tape_39 : decode b_X_tape 39 = .ok (.iload_n 3, 1) := by decide +kernel
theorem d_X_tape_40 : decode b_X_tape 40 = .ok (.bipush 60, 2) := by decide +kernel
theorem d_X_tape_42 : decode b_X_tape 42 = .ok (.if_icmp .le 6, 3) := by decide +kernel
theorem d_X_tape_45 : decode b_X_tape 45 = .ok (.bipush (-2), 2) := by decide +kernel
theorem d_X_tape_47 : decode b_X_tape 47 = .ok (.ireturn, 1) := by decide +kernel
theorem d_X_tape_48 : decode b_X_tape 48 = .ok (.iload_n 3, 1) := by decide +kernel
theorem d_X_tape_49 : decode b_X_tape 49 = .ok (.ifCond .ge 6, 3) := by decide +kernel
theorem d_X_tape_52 : decode b_X_tape 52 = .ok (.bipush (-14), 2) := by decide +kernel
theorem d_X_tape_54 : decode b_X_tape 54 = .ok (.ireturn, 1) := by decide +kernel
theorem d_X_tape_55 : decode b_X_tape 55 = .ok (.aload_n 0, 1) := by decide +kernel
theorem d_X_tape_56 : decode b_X_tape 56 = .ok (.getfield 66, 3) := by decide +kernel
theorem d_X_tape_59 : decode b_X_tape 59 = .ok (.iload_n 1, 1) := by decide +kernel
theorem d_X_tape_60 : decode b_X_tape 60 = .ok (.iload_n 2, 1) := by decide +kernel
theorem d_X_tape_61 : decode b_X_tape 61 = .ok (.iastore, 1) := by decide +kernel
theorem d_X_tape_62 : decode b_X_tape 62 = .ok (.aload_n 0, 1) := by decide +kernel
theorem d_X_tape_63 : decode b_X_tape 63 = .ok (.getfield 70, 3) := by decide +kernel
theorem d_X_tape_66 : decode b_X_tape 66 = .ok (.iload_n 1, 1) := by decide +kernel
theorem d_X_tape_67 : decode b_X_tape 67 = .ok (.iload_n 3, 1) := by decide +kernel
theorem d_X_tape_68 : decode b_X_tape 68 = .ok (.iastore, 1) := by decide +kernel
theorem d_X_tape_69 : decode b_X_tape 69 = .ok (.iconst 0, 1) := by decide +kernel
theorem d_X_tape_70 : decode b_X_tape 70 = .ok (.istore 4, 2) := by decide +kernel
theorem d_X_tape_72 : decode b_X_tape 72 = .ok (.iload 4, 2) := by decide +kernel
theorem d_X_tape_74 : decode b_X_tape 74 = .ok (.iload_n 3, 1) := by decide +kernel
theorem d_X_tape_75 : decode b_X_tape 75 = .ok (.if_icmp .ge 19, 3) := by decide +kernel
theorem d_X_tape_78 : decode b_X_tape 78 = .ok (.aload_n 0, 1) := by decide +kernel
theorem d_X_tape_79 : decode b_X_tape 79 = .ok (.getfield 75, 3) := by decide +kernel
theorem d_X_tape_82 : decode b_X_tape 82 = .ok (.iload_n 1, 1) := by decide +kernel
theorem d_X_tape_83 : decode b_X_tape 83 = .ok (.aaload, 1) := by decide +kernel
theorem d_X_tape_84 : decode b_X_tape 84 = .ok (.iload 4, 2) := by decide +kernel
theorem d_X_tape_86 : decode b_X_tape 86 = .ok (.lconst 0, 1) := by decide +kernel
theorem d_X_tape_87 : decode b_X_tape 87 = .ok (.lastore, 1) := by decide +kernel
theorem d_X_tape_88 : decode b_X_tape 88 = .ok (.iinc 4 1, 3) := by decide +kernel
theorem d_X_tape_91 : decode b_X_tape 91 = .ok (.goto (-19), 3) := by decide +kernel
theorem d_X_tape_94 : decode b_X_tape 94 = .ok (.iconst 1, 1) := by decide +kernel
theorem d_X_tape_95 : decode b_X_tape 95 = .ok (.ireturn, 1) := by decide +kernel
set_option maxRecDepth 20000 in
theorem c_X_tape_b72 {r : Int32} {wz : gW} {rec72 : Nat × Int32 × Int32 × Int32 × gW → Option (Int32 × gW)} (ih72 : ∀ (a0 : Nat) (a1 : Int32) (a3 : Int32) (a4 : Int32) (w : gW) (ls : Array Slot) (H : Heap) (locs : List Loc), rec72 (a0, a1, a3, a4, w) = some (r, wz) → lv_has ls 5 [(0, .ref (B + a0)), (1, .int a1), (3, .int a3), (4, .int a4)] → gRep D cA B w H → va_S (gA B) s.heap H locs → W p l e ({ frames := 2, cells := 0, slots := 0, locals := 60 } : Room) s m args below meth c H locs 0 0 (MQ below (gQi D cA B r wz) args s 0 0 (gA B)) (F0 m 72 ls [])) (C : gC p s m args meth c "RidCoppers" b_X_tape 5 (some .int) D cA oc B) (a0 : Nat) (a1 : Int32) (a3 : Int32) (a4 : Int32) (w : gW) {ls : Array Slot} {H : Heap} {locs : List Loc} (hl : lv_has ls 5 [(0, .ref (B + a0)), (1, .int a1), (3, .int a3), (4, .int a4)]) (hf : f_X_tape_b72 N rec72 a0 a1 a3 a4 w = some (r, wz)) (hR : gRep D cA B w H) (hS : va_S (gA B) s.heap H locs) : W p l e ({ frames := 2, cells := 0, slots := 0, locals := 60 } : Room) s m args below meth c H locs 0 0 (MQ below (gQi D cA B r wz) args s 0 0 (gA B)) (F0 m 72 ls []) := by
  obtain ⟨hx, hb, hml, hown, hts, hr, hlocks, hK, hBs⟩ := id C
  unfold f_X_tape_b72 at hf
  refine lv_iload hx hb d_X_tape_72 (lv_at hl 3 rfl) ?_
  refine lv_iload_n hx hb d_X_tape_74 rfl (lv_at hl 2 rfl) ?_
  refine lv_icmp_ge (tgt := 94) hx hb d_X_tape_75 (by decide) (fun hc => ?_) (fun hc => ?_)
  · have hf := cd_t hc hf
    refine lv_iconst (v := 1) hx hb d_X_tape_94 (by decide) ?_
    exact g_iret hx hb hr hlocks hR hS hf rfl d_X_tape_95
  have hf := cd_f hc hf
  refine lv_aload_n hx hb d_X_tape_78 rfl (lv_at hl 0 rfl) ?_
  have ⟨h16, hf⟩ := gd_e hf
  have ⟨x17, h18, hf⟩ := rr_e hf
  refine g_getR hx hb hts hown hK hR fl_X_75 (fun _ => rfl) h16 h18 d_X_tape_79 ?_
  refine lv_iload_n hx hb d_X_tape_82 rfl (lv_at hl 1 rfl) ?_
  have ⟨h19, hf⟩ := gd_e hf
  have ⟨h20, hf⟩ := gd_e hf
  have ⟨x21, h22, hf⟩ := rr_e hf
  refine g_aald hx hb hK hR (by decide) rfl (fun _ _ => rfl) h19 h20 h22 d_X_tape_83 ?_
  refine lv_iload hx hb d_X_tape_84 (lv_at hl 3 rfl) ?_
  refine lv_lconst (v := 0) hx hb d_X_tape_86 (by decide) ?_
  have ⟨h23, hf⟩ := gd_e hf
  have ⟨h24, hf⟩ := gd_e hf
  refine g_last hx hb hK hR hS h23 h24 d_X_tape_87 (fun H locs hR hS => ?_)
  refine g_nW hf hR (fun w25 hf hR => ?_)
  refine g_iinc (lv' := fun x26 => [(4, .int x26), (0, .ref (B + a0)), (1, .int a1), (3, .int a3)]) hf hx hb d_X_tape_88 hl (k := 3) rfl (by decide) (by decide) (fun _ => rfl) (fun x26 ls hf hl => ?_)
  refine lv_goto (tgt := 72) hx hb d_X_tape_91 (by decide) ?_
  exact ih72 a0 a1 a3 x26 w25 _ _ _ hf (lv_sub hl [1, 2, 3, 0] rfl) hR hS
theorem c_X_tape_l72 {r : Int32} {wz : gW} (C : gC p s m args meth c "RidCoppers" b_X_tape 5 (some .int) D cA oc B) (a0 : Nat) (a1 : Int32) (a3 : Int32) (a4 : Int32) (w : gW) {ls : Array Slot} {H : Heap} {locs : List Loc} (hl : lv_has ls 5 [(0, .ref (B + a0)), (1, .int a1), (3, .int a3), (4, .int a4)]) (hf : f_X_tape_l72 N a0 a1 a3 a4 w = some (r, wz)) (hR : gRep D cA B w H) (hS : va_S (gA B) s.heap H locs) : W p l e ({ frames := 2, cells := 0, slots := 0, locals := 60 } : Room) s m args below meth c H locs 0 0 (MQ below (gQi D cA B r wz) args s 0 0 (gA B)) (F0 m 72 ls []) := by
  unfold f_X_tape_l72 at hf
  suffices hh : ∀ n : Nat, ∀ (a0 : Nat) (a1 : Int32) (a3 : Int32) (a4 : Int32) (w : gW) (ls : Array Slot) (H : Heap) (locs : List Loc), itr (fun rec (q : Nat × Int32 × Int32 × Int32 × gW) => f_X_tape_b72 N rec q.1 q.2.1 q.2.2.1 q.2.2.2.1 q.2.2.2.2) n (a0, a1, a3, a4, w) = some (r, wz) → lv_has ls 5 [(0, .ref (B + a0)), (1, .int a1), (3, .int a3), (4, .int a4)] → gRep D cA B w H → va_S (gA B) s.heap H locs → W p l e ({ frames := 2, cells := 0, slots := 0, locals := 60 } : Room) s m args below meth c H locs 0 0 (MQ below (gQi D cA B r wz) args s 0 0 (gA B)) (F0 m 72 ls []) from hh N a0 a1 a3 a4 w ls H locs hf hl hR hS
  intro n
  induction n with
  | zero => intro a0 a1 a3 a4 w ls H locs hf; cases hf
  | succ n ihn =>
    intro a0 a1 a3 a4 w ls H locs hf hl hR hS
    exact c_X_tape_b72 (N := N) ihn C a0 a1 a3 a4 w hl ((itr_s _ _ _).symm.trans hf) hR hS
set_option maxRecDepth 20000 in
theorem c_X_tape_b0 {r : Int32} {wz : gW} (C : gC p s m args meth c "RidCoppers" b_X_tape 5 (some .int) D cA oc B) (a0 : Nat) (a1 : Int32) (a2 : Int32) (a3 : Int32) (w : gW) {ls : Array Slot} {H : Heap} {locs : List Loc} (hl : lv_has ls 5 [(0, .ref (B + a0)), (1, .int a1), (2, .int a2), (3, .int a3)]) (hf : f_X_tape_b0 N a0 a1 a2 a3 w = some (r, wz)) (hR : gRep D cA B w H) (hS : va_S (gA B) s.heap H locs) : W p l e ({ frames := 2, cells := 0, slots := 0, locals := 60 } : Room) s m args below meth c H locs 0 0 (MQ below (gQi D cA B r wz) args s 0 0 (gA B)) (F0 m 0 ls []) := by
  obtain ⟨hx, hb, hml, hown, hts, hr, hlocks, hK, hBs⟩ := id C
  unfold f_X_tape_b0 at hf
  refine lv_iload_n hx hb d_X_tape_0 rfl (lv_at hl 1 rfl) ?_
  have ⟨x1, w2, h3, hf⟩ := kl_e hf
  refine g_ki0 (g_rS (As := [.int a1]) (rest := []) hx hb hml hown hts hK hR hS (c_X_isTape l D cA oc B N a1 w h3) I_X_isTape m_844 rfl rfl (Nat.le_of_ble_eq_true rfl) hl.1 ⟨Nat.le_of_ble_eq_true rfl, Nat.le_of_ble_eq_true rfl⟩ ⟨Nat.le_of_ble_eq_true rfl, Nat.le_of_ble_eq_true rfl⟩ d_X_tape_1) hS (fun H locs hR hS => ?_)
  refine lv_if_ne (tgt := 9) hx hb d_X_tape_4 (by decide) (fun hc => ?_) (fun hc => ?_)
  · have hf := cd_f hc hf
    refine lv_iload_n hx hb d_X_tape_9 rfl (lv_at hl 2 rfl) ?_
    refine lv_iconst (v := (-1)) hx hb d_X_tape_10 (by decide) ?_
    refine lv_icmp_ne (tgt := 30) hx hb d_X_tape_11 (by decide) (fun hc => ?_) (fun hc => ?_)
    · have hf := cd_f hc hf
      refine lv_iload_n hx hb d_X_tape_30 rfl (lv_at hl 2 rfl) ?_
      refine lv_if_lt (tgt := 45) hx hb d_X_tape_31 (by decide) (fun hc => ?_) (fun hc => ?_)
      · have hf := cd_t hc hf
        refine lv_bipush (v := (-2)) hx hb d_X_tape_45 (by decide) ?_
        exact g_iret hx hb hr hlocks hR hS hf rfl d_X_tape_47
      have hf := cd_f hc hf
      refine lv_iload_n hx hb d_X_tape_34 rfl (lv_at hl 2 rfl) ?_
      refine lv_iconst (v := 4) hx hb d_X_tape_35 (by decide) ?_
      refine lv_icmp_gt (tgt := 45) hx hb d_X_tape_36 (by decide) (fun hc => ?_) (fun hc => ?_)
      · have hf := cd_t hc hf
        refine lv_bipush (v := (-2)) hx hb d_X_tape_45 (by decide) ?_
        exact g_iret hx hb hr hlocks hR hS hf rfl d_X_tape_47
      have hf := cd_f hc hf
      refine lv_iload_n hx hb d_X_tape_39 rfl (lv_at hl 3 rfl) ?_
      refine lv_bipush (v := 60) hx hb d_X_tape_40 (by decide) ?_
      refine lv_icmp_le (tgt := 48) hx hb d_X_tape_42 (by decide) (fun hc => ?_) (fun hc => ?_)
      · have hf := cd_t hc hf
        refine lv_iload_n hx hb d_X_tape_48 rfl (lv_at hl 3 rfl) ?_
        refine lv_if_ge (tgt := 55) hx hb d_X_tape_49 (by decide) (fun hc => ?_) (fun hc => ?_)
        · have hf := cd_t hc hf
          refine lv_aload_n hx hb d_X_tape_55 rfl (lv_at hl 0 rfl) ?_
          have ⟨h4, hf⟩ := gd_e hf
          have ⟨x5, h6, hf⟩ := rr_e hf
          refine g_getR hx hb hts hown hK hR fl_X_66 (fun _ => rfl) h4 h6 d_X_tape_56 ?_
          refine lv_iload_n hx hb d_X_tape_59 rfl (lv_at hl 1 rfl) ?_
          refine lv_iload_n hx hb d_X_tape_60 rfl (lv_at hl 2 rfl) ?_
          have ⟨h7, hf⟩ := gd_e hf
          have ⟨h8, hf⟩ := gd_e hf
          refine g_iast hx hb hK hR hS h7 h8 d_X_tape_61 (fun H locs hR hS => ?_)
          refine g_nW hf hR (fun w9 hf hR => ?_)
          refine lv_aload_n hx hb d_X_tape_62 rfl (lv_at hl 0 rfl) ?_
          have ⟨h10, hf⟩ := gd_e hf
          have ⟨x11, h12, hf⟩ := rr_e hf
          refine g_getR hx hb hts hown hK hR fl_X_70 (fun _ => rfl) h10 h12 d_X_tape_63 ?_
          refine lv_iload_n hx hb d_X_tape_66 rfl (lv_at hl 1 rfl) ?_
          refine lv_iload_n hx hb d_X_tape_67 rfl (lv_at hl 3 rfl) ?_
          have ⟨h13, hf⟩ := gd_e hf
          have ⟨h14, hf⟩ := gd_e hf
          refine g_iast hx hb hK hR hS h13 h14 d_X_tape_68 (fun H locs hR hS => ?_)
          refine g_nW hf hR (fun w15 hf hR => ?_)
          refine lv_iconst (v := 0) hx hb d_X_tape_69 (by decide) ?_
          refine lv_istore (lv' := [(4, .int 0), (0, .ref (B + a0)), (1, .int a1), (2, .int a2), (3, .int a3)]) hx hb d_X_tape_70 hl (by decide) rfl (fun ls hl => ?_)
          exact c_X_tape_l72 C a0 a1 a3 0 w15 (lv_sub hl [1, 2, 4, 0] rfl) hf hR hS
        have hf := cd_f hc hf
        refine lv_bipush (v := (-14)) hx hb d_X_tape_52 (by decide) ?_
        exact g_iret hx hb hr hlocks hR hS hf rfl d_X_tape_54
      have hf := cd_f hc hf
      refine lv_bipush (v := (-2)) hx hb d_X_tape_45 (by decide) ?_
      exact g_iret hx hb hr hlocks hR hS hf rfl d_X_tape_47
    have hf := cd_t hc hf
    refine lv_aload_n hx hb d_X_tape_14 rfl (lv_at hl 0 rfl) ?_
    have ⟨h27, hf⟩ := gd_e hf
    have ⟨x28, h29, hf⟩ := rr_e hf
    refine g_getR hx hb hts hown hK hR fl_X_66 (fun _ => rfl) h27 h29 d_X_tape_15 ?_
    refine lv_iload_n hx hb d_X_tape_18 rfl (lv_at hl 1 rfl) ?_
    refine lv_iconst (v := (-1)) hx hb d_X_tape_19 (by decide) ?_
    have ⟨h30, hf⟩ := gd_e hf
    have ⟨h31, hf⟩ := gd_e hf
    refine g_iast hx hb hK hR hS h30 h31 d_X_tape_20 (fun H locs hR hS => ?_)
    refine g_nW hf hR (fun w32 hf hR => ?_)
    refine lv_aload_n hx hb d_X_tape_21 rfl (lv_at hl 0 rfl) ?_
    have ⟨h33, hf⟩ := gd_e hf
    have ⟨x34, h35, hf⟩ := rr_e hf
    refine g_getR hx hb hts hown hK hR fl_X_70 (fun _ => rfl) h33 h35 d_X_tape_22 ?_
    refine lv_iload_n hx hb d_X_tape_25 rfl (lv_at hl 1 rfl) ?_
    refine lv_iconst (v := 0) hx hb d_X_tape_26 (by decide) ?_
    have ⟨h36, hf⟩ := gd_e hf
    have ⟨h37, hf⟩ := gd_e hf
    refine g_iast hx hb hK hR hS h36 h37 d_X_tape_27 (fun H locs hR hS => ?_)
    refine g_nW hf hR (fun w38 hf hR => ?_)
    refine lv_iconst (v := 1) hx hb d_X_tape_28 (by decide) ?_
    exact g_iret hx hb hr hlocks hR hS hf rfl d_X_tape_29
  have hf := cd_t hc hf
  refine lv_iconst (v := (-1)) hx hb d_X_tape_7 (by decide) ?_
  exact g_iret hx hb hr hlocks hR hS hf rfl d_X_tape_8
theorem c_X_tape (l : Launch) (D : va_G) (cA : Nat → ClassId) (oc : gO) (B N : Nat) (a0 : Nat) (a1 : Int32) (a2 : Int32) (a3 : Int32) (w : gW) {wz : gW} {r : Int32} (hf : f_X_tape N a0 a1 a2 a3 w = some (r, wz)) : Met l y_X_tape (Cond.code y_X_tape b_X_tape 5 (some .int) :: lw_good) ({ frames := 2, cells := 0, slots := 0, locals := 60 } : Room) (gPre D cA oc B [.ref (B + a0), .int a1, .int a2, .int a3] w) (gQi D cA B r wz) 0 0 (gA B) := by
  refine Met.ofW (cc := b_X_tape) (maxL := 5) (ret := (some .int)) (by decide +kernel) rfl ?_
  intro p e s m args below meth c s₁ Bd hml hv
  obtain ⟨hargs, C, hR⟩ := gC.enter (l := l) rfl Bd hml hv
  subst hargs
  have hl := lv_entry ([.ref (B + a0), .int a1, .int a2, .int a3]) (n := 5) (Nat.le_of_ble_eq_true rfl)
  rw [lg_entry_eq]
  generalize (lg_sl ([.ref (B + a0), .int a1, .int a2, .int a3]) ++ List.replicate (5 - (lg_sl ([.ref (B + a0), .int a1, .int a2, .int a3])).length) Slot.unset).toArray = ls at hl ⊢
  have hl : lv_has ls 5 [(0, .ref (B + a0)), (1, .int a1), (2, .int a2), (3, .int a3)] := hl
  exact c_X_tape_b0 C a0 a1 a2 a3 w (lv_sub hl [0, 1, 2, 3] rfl) hf hR va_S.rf
theorem d_X_narrowed_0 : decode b_X_narrowed 0 = .ok (.iload_n 0, 1) := by decide +kernel
theorem d_X_narrowed_1 : decode b_X_narrowed 1 = .ok (.tableswitch 47 0 3 #[31, 36, 41, 45], 31) := by decide +kernel
theorem d_X_narrowed_32 : decode b_X_narrowed 32 = .ok (.lload_n 1, 1) := by decide +kernel
theorem d_X_narrowed_33 : decode b_X_narrowed 33 = .ok (.l2i, 1) := by decide +kernel
theorem d_X_narrowed_34 : decode b_X_narrowed 34 = .ok (.i2b, 1) := by decide +kernel
theorem d_X_narrowed_35 : decode b_X_narrowed 35 = .ok (.i2l, 1) := by decide +kernel
theorem d_X_narrowed_36 : decode b_X_narrowed 36 = .ok (.lreturn, 1) := by decide +kernel
theorem d_X_narrowed_37 : decode b_X_narrowed 37 = .ok (.lload_n 1, 1) := by decide +kernel
theorem d_X_narrowed_38 : decode b_X_narrowed 38 = .ok (.l2i, 1) := by decide +kernel
theorem d_X_narrowed_39 : decode b_X_narrowed 39 = .ok (.i2s, 1) := by decide +kernel
theorem d_X_narrowed_40 : decode b_X_narrowed 40 = .ok (.i2l, 1) := by decide +kernel
theorem d_X_narrowed_41 : decode b_X_narrowed 41 = .ok (.lreturn, 1) := by decide +kernel
theorem d_X_narrowed_42 : decode b_X_narrowed 42 = .ok (.lload_n 1, 1) := by decide +kernel
theorem d_X_narrowed_43 : decode b_X_narrowed 43 = .ok (.l2i, 1) := by decide +kernel
theorem d_X_narrowed_44 : decode b_X_narrowed 44 = .ok (.i2l, 1) := by decide +kernel
theorem d_X_narrowed_45 : decode b_X_narrowed 45 = .ok (.lreturn, 1) := by decide +kernel
theorem d_X_narrowed_46 : decode b_X_narrowed 46 = .ok (.lload_n 1, 1) := by decide +kernel
theorem d_X_narrowed_47 : decode b_X_narrowed 47 = .ok (.lreturn, 1) := by decide +kernel
theorem d_X_narrowed_48 : decode b_X_narrowed 48 = .ok (.lload_n 1, 1) := by decide +kernel
theorem d_X_narrowed_49 : decode b_X_narrowed 49 = .ok (.lconst 0, 1) := by decide +kernel
theorem d_X_narrowed_50 : decode b_X_narrowed 50 = .ok (.lcmp, 1) := by decide +kernel
theorem d_X_narrowed_51 : decode b_X_narrowed 51 = .ok (.ifCond .eq 7, 3) := by decide +kernel
theorem d_X_narrowed_54 : decode b_X_narrowed 54 = .ok (.lconst 1, 1) := by decide +kernel
theorem d_X_narrowed_55 : decode b_X_narrowed 55 = .ok (.goto 4, 3) := by decide +kernel
theorem d_X_narrowed_58 : decode b_X_narrowed 58 = .ok (.lconst 0, 1) := by decide +kernel
theorem d_X_narrowed_59 : decode b_X_narrowed 59 = .ok (.lreturn, 1) := by decide +kernel
set_option maxRecDepth 20000 in
theorem c_X_narrowed_b0 {r : Int64} {wz : gW} (C : gC p s m args meth c "RidCoppers" b_X_narrowed 3 (some .long) D cA oc B) (a0 : Int32) (a1 : Int64) (w : gW) {ls : Array Slot} {H : Heap} {locs : List Loc} (hl : lv_has ls 3 [(0, .int a0), (1, .long a1)]) (hf : f_X_narrowed_b0 N a0 a1 w = some (r, wz)) (hR : gRep D cA B w H) (hS : va_S (gA B) s.heap H locs) : W p l e ({ frames := 1, cells := 0, slots := 0, locals := 40 } : Room) s m args below meth c H locs 0 0 (MQ below (gQl D cA B r wz) args s 0 0 (gA B)) (F0 m 0 ls []) := by
  obtain ⟨hx, hb, hml, hown, hts, hr, hlocks, hK, hBs⟩ := id C
  unfold f_X_narrowed_b0 at hf
  refine lv_iload_n hx hb d_X_narrowed_0 rfl (lv_at hl 0 rfl) ?_
  by_cases hc1 : a0 = 0
  · refine lv_tableIn (off := 31) (tgt := 32) hx hb d_X_narrowed_1 (by rw [hc1]; decide) (by rw [hc1]; decide) (by rw [hc1]; rfl) (by decide) ?_
    have hf := cd_t hc1 hf
    refine lv_lload_n hx hb d_X_narrowed_32 rfl (lv_at hl 1 rfl) ?_
    refine lv_l2i hx hb d_X_narrowed_33 rfl ?_
    refine g_nI hf (fun x2 hf => ?_)
    refine lv_i2b hx hb d_X_narrowed_34 rfl ?_
    refine g_nI hf (fun x3 hf => ?_)
    refine lv_i2l hx hb d_X_narrowed_35 rfl ?_
    refine g_nL hf (fun x4 hf => ?_)
    exact g_lret hx hb hr hlocks hR hS hf d_X_narrowed_36
  have hf := cd_f hc1 hf
  by_cases hc5 : a0 = 1
  · refine lv_tableIn (off := 36) (tgt := 37) hx hb d_X_narrowed_1 (by rw [hc5]; decide) (by rw [hc5]; decide) (by rw [hc5]; rfl) (by decide) ?_
    have hf := cd_t hc5 hf
    refine lv_lload_n hx hb d_X_narrowed_37 rfl (lv_at hl 1 rfl) ?_
    refine lv_l2i hx hb d_X_narrowed_38 rfl ?_
    refine g_nI hf (fun x6 hf => ?_)
    refine lv_i2s hx hb d_X_narrowed_39 rfl ?_
    refine g_nI hf (fun x7 hf => ?_)
    refine lv_i2l hx hb d_X_narrowed_40 rfl ?_
    refine g_nL hf (fun x8 hf => ?_)
    exact g_lret hx hb hr hlocks hR hS hf d_X_narrowed_41
  have hf := cd_f hc5 hf
  by_cases hc9 : a0 = 2
  · refine lv_tableIn (off := 41) (tgt := 42) hx hb d_X_narrowed_1 (by rw [hc9]; decide) (by rw [hc9]; decide) (by rw [hc9]; rfl) (by decide) ?_
    have hf := cd_t hc9 hf
    refine lv_lload_n hx hb d_X_narrowed_42 rfl (lv_at hl 1 rfl) ?_
    refine lv_l2i hx hb d_X_narrowed_43 rfl ?_
    refine g_nI hf (fun x10 hf => ?_)
    refine lv_i2l hx hb d_X_narrowed_44 rfl ?_
    refine g_nL hf (fun x11 hf => ?_)
    exact g_lret hx hb hr hlocks hR hS hf d_X_narrowed_45
  have hf := cd_f hc9 hf
  by_cases hc12 : a0 = 3
  · refine lv_tableIn (off := 45) (tgt := 46) hx hb d_X_narrowed_1 (by rw [hc12]; decide) (by rw [hc12]; decide) (by rw [hc12]; rfl) (by decide) ?_
    have hf := cd_t hc12 hf
    refine lv_lload_n hx hb d_X_narrowed_46 rfl (lv_at hl 1 rfl) ?_
    exact g_lret hx hb hr hlocks hR hS hf d_X_narrowed_47
  have hf := cd_f hc12 hf
  have hout : a0.toInt < 0 ∨ 3 < a0.toInt := by
    have := lv_neT (a := 0) hc1 rfl
    have := lv_neT (a := 1) hc5 rfl
    have := lv_neT (a := 2) hc9 rfl
    have := lv_neT (a := 3) hc12 rfl
    omega
  refine lv_tableOut (tgt := 48) hx hb d_X_narrowed_1 hout (by decide) ?_
  refine lv_lload_n hx hb d_X_narrowed_48 rfl (lv_at hl 1 rfl) ?_
  refine lv_lconst (v := 0) hx hb d_X_narrowed_49 (by decide) ?_
  refine W.lcmp hx hb d_X_narrowed_50 ?_
  refine g_nI hf (fun x13 hf => ?_)
  refine lv_if_eq (tgt := 58) hx hb d_X_narrowed_51 (by decide) (fun hc => ?_) (fun hc => ?_)
  · have hf := cd_t hc hf
    refine lv_lconst (v := 0) hx hb d_X_narrowed_58 (by decide) ?_
    exact g_lret hx hb hr hlocks hR hS hf d_X_narrowed_59
  have hf := cd_f hc hf
  refine lv_lconst (v := 1) hx hb d_X_narrowed_54 (by decide) ?_
  refine lv_goto (tgt := 59) hx hb d_X_narrowed_55 (by decide) ?_
  exact g_lret hx hb hr hlocks hR hS hf d_X_narrowed_59
theorem c_X_narrowed (l : Launch) (D : va_G) (cA : Nat → ClassId) (oc : gO) (B N : Nat) (a0 : Int32) (a1 : Int64) (w : gW) {wz : gW} {r : Int64} (hf : f_X_narrowed N a0 a1 w = some (r, wz)) : Met l y_X_narrowed (Cond.code y_X_narrowed b_X_narrowed 3 (some .long) :: lw_good) ({ frames := 1, cells := 0, slots := 0, locals := 40 } : Room) (gPre D cA oc B [.int a0, .long a1] w) (gQl D cA B r wz) 0 0 (gA B) := by
  refine Met.ofW (cc := b_X_narrowed) (maxL := 3) (ret := (some .long)) (by decide +kernel) rfl ?_
  intro p e s m args below meth c s₁ Bd hml hv
  obtain ⟨hargs, C, hR⟩ := gC.enter (l := l) rfl Bd hml hv
  subst hargs
  have hl := lv_entry ([.int a0, .long a1]) (n := 3) (Nat.le_of_ble_eq_true rfl)
  rw [lg_entry_eq]
  generalize (lg_sl ([.int a0, .long a1]) ++ List.replicate (3 - (lg_sl ([.int a0, .long a1])).length) Slot.unset).toArray = ls at hl ⊢
  have hl : lv_has ls 3 [(0, .int a0), (1, .long a1)] := hl
  exact c_X_narrowed_b0 C a0 a1 w (lv_sub hl [0, 1] rfl) hf hR va_S.rf
theorem d_X_item_0 : decode b_X_item 0 = .ok (.iload_n 1, 1) := by decide +kernel
theorem d_X_item_1 : decode b_X_item 1 = .ok (.invokestatic 242, 3) := by decide +kernel
theorem d_X_item_4 : decode b_X_item 4 = .ok (.ifCond .ne 5, 3) := by decide +kernel
theorem d_X_item_7 : decode b_X_item 7 = .ok (.iconst (-1), 1) := by decide +kernel
theorem d_X_item_8 : decode b_X_item 8 = .ok (.ireturn, 1) := by decide +kernel
theorem d_X_item_9 : decode b_X_item 9 = .ok (.aload_n 0, 1) := by decide +kernel
theorem d_X_item_10 : decode b_X_item 10 = .ok (.getfield 66, 3) := by decide +kernel
theorem d_X_item_13 : decode b_X_item 13 = .ok (.iload_n 1, 1) := by decide +kernel
theorem d_X_item_14 : decode b_X_item 14 = .ok (.iaload, 1) := by decide +kernel
theorem d_X_item_15 : decode b_X_item 15 = .ok (.iconst (-1), 1) := by decide +kernel
theorem d_X_item_16 : decode b_X_item 16 = .ok (.if_icmp .ne 6, 3) := by decide +kernel
theorem d_X_item_19 : decode b_X_item 19 = .ok (.bipush (-11), 2) := by decide +kernel
theorem d_X_item_21 : decode b_X_item 21 = .ok (.ireturn, 1) := by decide +kernel
theorem d_X_item_22 : decode b_X_item 22 = .ok (.iload_n 2, 1) := by decide +kernel
theorem d_X_item_23 : decode b_X_item 23 = .ok (.ifCond .lt 13, 3) := by decide +kernel
theorem d_X_item_26 : decode b_X_item 26 = .ok (.iload_n 2, 1) := by decide +kernel
theorem d_X_item_27 : decode b_X_item 27 = .ok (.aload_n 0, 1) := by decide +kernel
theorem d_X_item_28 : decode b_X_item 28 = .ok (.getfield 70, 3) := by decide +kernel
theorem d_X_item_31 : decode b_X_item 31 = .ok (.iload_n 1, 1) := by decide +kernel
theorem d_X_item_32 : decode b_X_item 32 = .ok (.iaload, 1) := by decide +kernel
theorem d_X_item_33 : decode b_X_item 33 = .ok (.if_icmp .lt 6, 3) := by decide +kernel
theorem d_X_item_36 : decode b_X_item 36 = .ok (.bipush (-13), 2) := by decide +kernel
theorem d_X_item_38 : decode b_X_item 38 = .ok (.ireturn, 1) := by decide +kernel
theorem d_X_item_39 : decode b_X_item 39 = .ok (.aload_n 0, 1) := by decide +kernel
theorem d_X_item_40 : decode b_X_item 40 = .ok (.getfield 75, 3) := by decide +kernel
theorem d_X_item_43 : decode b_X_item 43 = .ok (.iload_n 1, 1) := by decide +kernel
theorem d_X_item_44 : decode b_X_item 44 = .ok (.aaload, 1) := by decide +kernel
theorem d_X_item_45 : decode b_X_item 45 = .ok (.iload_n 2, 1) := by decide +kernel
theorem d_X_item_46 : decode b_X_item 46 = .ok (.aload_n 0, 1) := by decide +kernel
theorem d_X_item_47 : decode b_X_item 47 = .ok (.getfield 66, 3) := by decide +kernel
theorem d_X_item_50 : decode b_X_item 50 = .ok (.iload_n 1, 1) := by decide +kernel
theorem d_X_item_51 : decode b_X_item 51 = .ok (.iaload, 1) := by decide +kernel
theorem d_X_item_52 : decode b_X_item 52 = .ok (.lload_n 3, 1) := by decide +kernel
theorem d_X_item_53 : decode b_X_item 53 = .ok (.invokestatic 265, 3) := by decide +kernel
theorem d_X_item_56 : decode b_X_item 56 = .ok (.lastore, 1) := by decide +kernel
theorem d_X_item_57 : decode b_X_item 57 = .ok (.iconst 1, 1) := by decide +kernel
theorem d_X_item_58 : decode b_X_item 58 = .ok (.ireturn, 1) := by decide +kernel
set_option maxRecDepth 20000 in
theorem c_X_item_b0 {r : Int32} {wz : gW} (C : gC p s m args meth c "RidCoppers" b_X_item 5 (some .int) D cA oc B) (a0 : Nat) (a1 : Int32) (a2 : Int32) (a3 : Int64) (w : gW) {ls : Array Slot} {H : Heap} {locs : List Loc} (hl : lv_has ls 5 [(0, .ref (B + a0)), (1, .int a1), (2, .int a2), (3, .long a3)]) (hf : f_X_item_b0 N a0 a1 a2 a3 w = some (r, wz)) (hR : gRep D cA B w H) (hS : va_S (gA B) s.heap H locs) : W p l e ({ frames := 2, cells := 0, slots := 0, locals := 62 } : Room) s m args below meth c H locs 0 0 (MQ below (gQi D cA B r wz) args s 0 0 (gA B)) (F0 m 0 ls []) := by
  obtain ⟨hx, hb, hml, hown, hts, hr, hlocks, hK, hBs⟩ := id C
  unfold f_X_item_b0 at hf
  refine lv_iload_n hx hb d_X_item_0 rfl (lv_at hl 1 rfl) ?_
  have ⟨x1, w2, h3, hf⟩ := kl_e hf
  refine g_ki0 (g_rS (As := [.int a1]) (rest := []) hx hb hml hown hts hK hR hS (c_X_isTape l D cA oc B N a1 w h3) I_X_isTape m_844 rfl rfl (Nat.le_of_ble_eq_true rfl) hl.1 ⟨Nat.le_of_ble_eq_true rfl, Nat.le_of_ble_eq_true rfl⟩ ⟨Nat.le_of_ble_eq_true rfl, Nat.le_of_ble_eq_true rfl⟩ d_X_item_1) hS (fun H locs hR hS => ?_)
  refine lv_if_ne (tgt := 9) hx hb d_X_item_4 (by decide) (fun hc => ?_) (fun hc => ?_)
  · have hf := cd_f hc hf
    refine lv_aload_n hx hb d_X_item_9 rfl (lv_at hl 0 rfl) ?_
    have ⟨h4, hf⟩ := gd_e hf
    have ⟨x5, h6, hf⟩ := rr_e hf
    refine g_getR hx hb hts hown hK hR fl_X_66 (fun _ => rfl) h4 h6 d_X_item_10 ?_
    refine lv_iload_n hx hb d_X_item_13 rfl (lv_at hl 1 rfl) ?_
    have ⟨h7, hf⟩ := gd_e hf
    have ⟨h8, hf⟩ := gd_e hf
    refine g_iald hx hb hK hR h7 h8 d_X_item_14 ?_
    refine g_nI hf (fun x9 hf => ?_)
    refine lv_iconst (v := (-1)) hx hb d_X_item_15 (by decide) ?_
    refine lv_icmp_ne (tgt := 22) hx hb d_X_item_16 (by decide) (fun hc => ?_) (fun hc => ?_)
    · have hf := cd_f hc hf
      refine lv_iload_n hx hb d_X_item_22 rfl (lv_at hl 2 rfl) ?_
      refine lv_if_lt (tgt := 36) hx hb d_X_item_23 (by decide) (fun hc => ?_) (fun hc => ?_)
      · have hf := cd_t hc hf
        refine lv_bipush (v := (-13)) hx hb d_X_item_36 (by decide) ?_
        exact g_iret hx hb hr hlocks hR hS hf rfl d_X_item_38
      have hf := cd_f hc hf
      refine lv_iload_n hx hb d_X_item_26 rfl (lv_at hl 2 rfl) ?_
      refine lv_aload_n hx hb d_X_item_27 rfl (lv_at hl 0 rfl) ?_
      have ⟨x10, h11, hf⟩ := rr_e hf
      refine g_getR hx hb hts hown hK hR fl_X_70 (fun _ => rfl) h4 h11 d_X_item_28 ?_
      refine lv_iload_n hx hb d_X_item_31 rfl (lv_at hl 1 rfl) ?_
      have ⟨h12, hf⟩ := gd_e hf
      have ⟨h13, hf⟩ := gd_e hf
      refine g_iald hx hb hK hR h12 h13 d_X_item_32 ?_
      refine g_nI hf (fun x14 hf => ?_)
      refine lv_icmp_lt (tgt := 39) hx hb d_X_item_33 (by decide) (fun hc => ?_) (fun hc => ?_)
      · have hf := cd_t hc hf
        refine lv_aload_n hx hb d_X_item_39 rfl (lv_at hl 0 rfl) ?_
        have ⟨x15, h16, hf⟩ := rr_e hf
        refine g_getR hx hb hts hown hK hR fl_X_75 (fun _ => rfl) h4 h16 d_X_item_40 ?_
        refine lv_iload_n hx hb d_X_item_43 rfl (lv_at hl 1 rfl) ?_
        have ⟨h17, hf⟩ := gd_e hf
        have ⟨h18, hf⟩ := gd_e hf
        have ⟨x19, h20, hf⟩ := rr_e hf
        refine g_aald hx hb hK hR (by decide) rfl (fun _ _ => rfl) h17 h18 h20 d_X_item_44 ?_
        refine lv_iload_n hx hb d_X_item_45 rfl (lv_at hl 2 rfl) ?_
        refine lv_aload_n hx hb d_X_item_46 rfl (lv_at hl 0 rfl) ?_
        refine g_getR hx hb hts hown hK hR fl_X_66 (fun _ => rfl) h4 h6 d_X_item_47 ?_
        refine lv_iload_n hx hb d_X_item_50 rfl (lv_at hl 1 rfl) ?_
        refine g_iald hx hb hK hR h7 h8 d_X_item_51 ?_
        refine g_nI hf (fun x21 hf => ?_)
        refine lv_lload_n hx hb d_X_item_52 rfl (lv_at hl 3 rfl) ?_
        have ⟨x22, w23, h24, hf⟩ := kl_e hf
        refine g_kl0 (g_rS (As := [.int x21, .long a3]) (rest := [.int a2, .ref (B + x19)]) hx hb hml hown hts hK hR hS (c_X_narrowed l D cA oc B N x21 a3 w2 h24) I_X_narrowed m_961 rfl rfl (Nat.le_of_ble_eq_true rfl) hl.1 ⟨Nat.le_of_ble_eq_true rfl, Nat.le_of_ble_eq_true rfl⟩ ⟨Nat.le_of_ble_eq_true rfl, Nat.le_of_ble_eq_true rfl⟩ d_X_item_53) hS (fun H locs hR hS => ?_)
        have ⟨h25, hf⟩ := gd_e hf
        have ⟨h26, hf⟩ := gd_e hf
        refine g_last hx hb hK hR hS h25 h26 d_X_item_56 (fun H locs hR hS => ?_)
        refine g_nW hf hR (fun w27 hf hR => ?_)
        refine lv_iconst (v := 1) hx hb d_X_item_57 (by decide) ?_
        exact g_iret hx hb hr hlocks hR hS hf rfl d_X_item_58
      have hf := cd_f hc hf
      refine lv_bipush (v := (-13)) hx hb d_X_item_36 (by decide) ?_
      exact g_iret hx hb hr hlocks hR hS hf rfl d_X_item_38
    have hf := cd_t hc hf
    refine lv_bipush (v := (-11)) hx hb d_X_item_19 (by decide) ?_
    exact g_iret hx hb hr hlocks hR hS hf rfl d_X_item_21
  have hf := cd_t hc hf
  refine lv_iconst (v := (-1)) hx hb d_X_item_7 (by decide) ?_
  exact g_iret hx hb hr hlocks hR hS hf rfl d_X_item_8
theorem c_X_item (l : Launch) (D : va_G) (cA : Nat → ClassId) (oc : gO) (B N : Nat) (a0 : Nat) (a1 : Int32) (a2 : Int32) (a3 : Int64) (w : gW) {wz : gW} {r : Int32} (hf : f_X_item N a0 a1 a2 a3 w = some (r, wz)) : Met l y_X_item (Cond.code y_X_item b_X_item 5 (some .int) :: lw_good) ({ frames := 2, cells := 0, slots := 0, locals := 62 } : Room) (gPre D cA oc B [.ref (B + a0), .int a1, .int a2, .long a3] w) (gQi D cA B r wz) 0 0 (gA B) := by
  refine Met.ofW (cc := b_X_item) (maxL := 5) (ret := (some .int)) (by decide +kernel) rfl ?_
  intro p e s m args below meth c s₁ Bd hml hv
  obtain ⟨hargs, C, hR⟩ := gC.enter (l := l) rfl Bd hml hv
  subst hargs
  have hl := lv_entry ([.ref (B + a0), .int a1, .int a2, .long a3]) (n := 5) (Nat.le_of_ble_eq_true rfl)
  rw [lg_entry_eq]
  generalize (lg_sl ([.ref (B + a0), .int a1, .int a2, .long a3]) ++ List.replicate (5 - (lg_sl ([.ref (B + a0), .int a1, .int a2, .long a3])).length) Slot.unset).toArray = ls at hl ⊢
  have hl : lv_has ls 5 [(0, .ref (B + a0)), (1, .int a1), (2, .int a2), (3, .long a3)] := hl
  exact c_X_item_b0 C a0 a1 a2 a3 w (lv_sub hl [0, 1, 2, 3] rfl) hf hR va_S.rf
theorem d_X_read_0 : decode b_X_read 0 = .ok (.iload_n 1, 1) := by decide +kernel
theorem d_X_read_1 : decode b_X_read 1 = .ok (.invokestatic 242, 3) := by decide +kernel
theorem d_X_read_4 : decode b_X_read 4 = .ok (.ifCond .eq 17, 3) := by decide +kernel
theorem d_X_read_7 : decode b_X_read 7 = .ok (.iload_n 2, 1) := by decide +kernel
theorem d_X_read_8 : decode b_X_read 8 = .ok (.ifCond .lt 13, 3) := by decide +kernel
theorem d_X_read_11 : decode b_X_read 11 = .ok (.iload_n 2, 1) := by decide +kernel
theorem d_X_read_12 : decode b_X_read 12 = .ok (.aload_n 0, 1) := by decide +kernel
theorem d_X_read_13 : decode b_X_read 13 = .ok (.getfield 70, 3) := by decide +kernel
theorem d_X_read_16 : decode b_X_read 16 = .ok (.iload_n 1, 1) := by decide +kernel
theorem d_X_read_17 : decode b_X_read 17 = .ok (.iaload, 1) := by decide +kernel
theorem d_X_read_18 : decode b_X_read 18 = .ok (.if_icmp .lt 7, 3) := by decide +kernel
theorem d_X_read_21 : decode b_X_read 21 = .ok (.ldc2_w 227, 3) := by decide +kernel
theorem d_X_read_24 : decode b_X_read 24 = .ok (.lreturn, 1) := by decide +kernel
theorem d_X_read_25 : decode b_X_read 25 = .ok (.aload_n 0, 1) := by decide +kernel
theorem d_X_read_26 : decode b_X_read 26 = .ok (.getfield 75, 3) := by decide +kernel
theorem d_X_read_29 : decode b_X_read 29 = .ok (.iload_n 1, 1) := by decide +kernel
theorem d_X_read_30 : decode b_X_read 30 = .ok (.aaload, 1) := by decide +kernel
theorem d_X_read_31 : decode b_X_read 31 = .ok (.iload_n 2, 1) := by decide +kernel
theorem d_X_read_32 : decode b_X_read 32 = .ok (.laload, 1) := by decide +kernel
theorem d_X_read_33 : decode b_X_read 33 = .ok (.lreturn, 1) := by decide +kernel
set_option maxRecDepth 20000 in
theorem c_X_read_b0 {r : Int64} {wz : gW} (C : gC p s m args meth c "RidCoppers" b_X_read 3 (some .long) D cA oc B) (a0 : Nat) (a1 : Int32) (a2 : Int32) (w : gW) {ls : Array Slot} {H : Heap} {locs : List Loc} (hl : lv_has ls 3 [(0, .ref (B + a0)), (1, .int a1), (2, .int a2)]) (hf : f_X_read_b0 N a0 a1 a2 w = some (r, wz)) (hR : gRep D cA B w H) (hS : va_S (gA B) s.heap H locs) : W p l e ({ frames := 2, cells := 0, slots := 0, locals := 60 } : Room) s m args below meth c H locs 0 0 (MQ below (gQl D cA B r wz) args s 0 0 (gA B)) (F0 m 0 ls []) := by
  obtain ⟨hx, hb, hml, hown, hts, hr, hlocks, hK, hBs⟩ := id C
  unfold f_X_read_b0 at hf
  refine lv_iload_n hx hb d_X_read_0 rfl (lv_at hl 1 rfl) ?_
  have ⟨x1, w2, h3, hf⟩ := kl_e hf
  refine g_ki0 (g_rS (As := [.int a1]) (rest := []) hx hb hml hown hts hK hR hS (c_X_isTape l D cA oc B N a1 w h3) I_X_isTape m_844 rfl rfl (Nat.le_of_ble_eq_true rfl) hl.1 ⟨Nat.le_of_ble_eq_true rfl, Nat.le_of_ble_eq_true rfl⟩ ⟨Nat.le_of_ble_eq_true rfl, Nat.le_of_ble_eq_true rfl⟩ d_X_read_1) hS (fun H locs hR hS => ?_)
  refine lv_if_eq (tgt := 21) hx hb d_X_read_4 (by decide) (fun hc => ?_) (fun hc => ?_)
  · have hf := cd_t hc hf
    refine lv_ldc2 hx hb hown (hts _ m_821) d_X_read_21 ?_
    exact g_lret hx hb hr hlocks hR hS hf d_X_read_24
  have hf := cd_f hc hf
  refine lv_iload_n hx hb d_X_read_7 rfl (lv_at hl 2 rfl) ?_
  refine lv_if_lt (tgt := 21) hx hb d_X_read_8 (by decide) (fun hc => ?_) (fun hc => ?_)
  · have hf := cd_t hc hf
    refine lv_ldc2 hx hb hown (hts _ m_821) d_X_read_21 ?_
    exact g_lret hx hb hr hlocks hR hS hf d_X_read_24
  have hf := cd_f hc hf
  refine lv_iload_n hx hb d_X_read_11 rfl (lv_at hl 2 rfl) ?_
  refine lv_aload_n hx hb d_X_read_12 rfl (lv_at hl 0 rfl) ?_
  have ⟨h4, hf⟩ := gd_e hf
  have ⟨x5, h6, hf⟩ := rr_e hf
  refine g_getR hx hb hts hown hK hR fl_X_70 (fun _ => rfl) h4 h6 d_X_read_13 ?_
  refine lv_iload_n hx hb d_X_read_16 rfl (lv_at hl 1 rfl) ?_
  have ⟨h7, hf⟩ := gd_e hf
  have ⟨h8, hf⟩ := gd_e hf
  refine g_iald hx hb hK hR h7 h8 d_X_read_17 ?_
  refine g_nI hf (fun x9 hf => ?_)
  refine lv_icmp_lt (tgt := 25) hx hb d_X_read_18 (by decide) (fun hc => ?_) (fun hc => ?_)
  · have hf := cd_t hc hf
    refine lv_aload_n hx hb d_X_read_25 rfl (lv_at hl 0 rfl) ?_
    have ⟨x10, h11, hf⟩ := rr_e hf
    refine g_getR hx hb hts hown hK hR fl_X_75 (fun _ => rfl) h4 h11 d_X_read_26 ?_
    refine lv_iload_n hx hb d_X_read_29 rfl (lv_at hl 1 rfl) ?_
    have ⟨h12, hf⟩ := gd_e hf
    have ⟨h13, hf⟩ := gd_e hf
    have ⟨x14, h15, hf⟩ := rr_e hf
    refine g_aald hx hb hK hR (by decide) rfl (fun _ _ => rfl) h12 h13 h15 d_X_read_30 ?_
    refine lv_iload_n hx hb d_X_read_31 rfl (lv_at hl 2 rfl) ?_
    have ⟨h16, hf⟩ := gd_e hf
    have ⟨h17, hf⟩ := gd_e hf
    refine g_lald hx hb hK hR h16 h17 d_X_read_32 ?_
    refine g_nL hf (fun x18 hf => ?_)
    exact g_lret hx hb hr hlocks hR hS hf d_X_read_33
  have hf := cd_f hc hf
  refine lv_ldc2 hx hb hown (hts _ m_821) d_X_read_21 ?_
  exact g_lret hx hb hr hlocks hR hS hf d_X_read_24
theorem c_X_read (l : Launch) (D : va_G) (cA : Nat → ClassId) (oc : gO) (B N : Nat) (a0 : Nat) (a1 : Int32) (a2 : Int32) (w : gW) {wz : gW} {r : Int64} (hf : f_X_read N a0 a1 a2 w = some (r, wz)) : Met l y_X_read (Cond.code y_X_read b_X_read 3 (some .long) :: lw_good) ({ frames := 2, cells := 0, slots := 0, locals := 60 } : Room) (gPre D cA oc B [.ref (B + a0), .int a1, .int a2] w) (gQl D cA B r wz) 0 0 (gA B) := by
  refine Met.ofW (cc := b_X_read) (maxL := 3) (ret := (some .long)) (by decide +kernel) rfl ?_
  intro p e s m args below meth c s₁ Bd hml hv
  obtain ⟨hargs, C, hR⟩ := gC.enter (l := l) rfl Bd hml hv
  subst hargs
  have hl := lv_entry ([.ref (B + a0), .int a1, .int a2]) (n := 3) (Nat.le_of_ble_eq_true rfl)
  rw [lg_entry_eq]
  generalize (lg_sl ([.ref (B + a0), .int a1, .int a2]) ++ List.replicate (3 - (lg_sl ([.ref (B + a0), .int a1, .int a2])).length) Slot.unset).toArray = ls at hl ⊢
  have hl : lv_has ls 3 [(0, .ref (B + a0)), (1, .int a1), (2, .int a2)] := hl
  exact c_X_read_b0 C a0 a1 a2 w (lv_sub hl [0, 1, 2] rfl) hf hR va_S.rf
theorem d_X_isStretch_0 : decode b_X_isStretch 0 = .ok (.iload_n 2, 1) := by decide +kernel
theorem d_X_isStretch_1 : decode b_X_isStretch 1 = .ok (.ifCond .lt 23, 3) := by decide +kernel
theorem d_X_isStretch_4 : decode b_X_isStretch 4 = .ok (.iload_n 1, 1) := by decide +kernel
theorem d_X_isStretch_5 : decode b_X_isStretch 5 = .ok (.ifCond .lt 19, 3) := by decide +kernel
theorem d_X_isStretch_8 : decode b_X_isStretch 8 = .ok (.iload_n 2, 1) := by decide +kernel
theorem d_X_isStretch_9 : decode b_X_isStretch 9 = .ok (.iload_n 0, 1) := by decide +kernel
theorem d_X_isStretch_10 : decode b_X_isStretch 10 = .ok (.if_icmp .gt 14, 3) := by decide +kernel
theorem d_X_isStretch_13 : decode b_X_isStretch 13 = .ok (.iload_n 1, 1) := by decide +kernel
theorem d_X_isStretch_14 : decode b_X_isStretch 14 = .ok (.iload_n 0, 1) := by decide +kernel
theorem d_X_isStretch_15 : decode b_X_isStretch 15 = .ok (.iload_n 2, 1) := by decide +kernel
theorem d_X_isStretch_16 : decode b_X_isStretch 16 = .ok (.isub, 1) := by decide +kernel
theorem d_X_isStretch_17 : decode b_X_isStretch 17 = .ok (.if_icmp .gt 7, 3) := by decide +kernel
theorem d_X_isStretch_20 : decode b_X_isStretch 20 = .ok (.iconst 1, 1) := by decide +kernel
theorem d_X_isStretch_21 : decode b_X_isStretch 21 = .ok (.goto 4, 3) := by decide +kernel
theorem d_X_isStretch_24 : decode b_X_isStretch 24 = .ok (.iconst 0, 1) := by decide +kernel
theorem d_X_isStretch_25 : decode b_X_isStretch 25 = .ok (.ireturn, 1) := by decide +kernel
set_option maxRecDepth 20000 in
theorem c_X_isStretch_b0 {r : Int32} {wz : gW} (C : gC p s m args meth c "RidCoppers" b_X_isStretch 3 (some .boolean) D cA oc B) (a0 : Int32) (a1 : Int32) (a2 : Int32) (w : gW) {ls : Array Slot} {H : Heap} {locs : List Loc} (hl : lv_has ls 3 [(0, .int a0), (1, .int a1), (2, .int a2)]) (hf : f_X_isStretch_b0 N a0 a1 a2 w = some (r, wz)) (hR : gRep D cA B w H) (hS : va_S (gA B) s.heap H locs) : W p l e ({ frames := 1, cells := 0, slots := 0, locals := 40 } : Room) s m args below meth c H locs 0 0 (MQ below (gQi D cA B r wz) args s 0 0 (gA B)) (F0 m 0 ls []) := by
  obtain ⟨hx, hb, hml, hown, hts, hr, hlocks, hK, hBs⟩ := id C
  unfold f_X_isStretch_b0 at hf
  refine lv_iload_n hx hb d_X_isStretch_0 rfl (lv_at hl 2 rfl) ?_
  refine lv_if_lt (tgt := 24) hx hb d_X_isStretch_1 (by decide) (fun hc => ?_) (fun hc => ?_)
  · have hf := cd_t hc hf
    refine lv_iconst (v := 0) hx hb d_X_isStretch_24 (by decide) ?_
    exact g_iret hx hb hr hlocks hR hS hf rfl d_X_isStretch_25
  have hf := cd_f hc hf
  refine lv_iload_n hx hb d_X_isStretch_4 rfl (lv_at hl 1 rfl) ?_
  refine lv_if_lt (tgt := 24) hx hb d_X_isStretch_5 (by decide) (fun hc => ?_) (fun hc => ?_)
  · have hf := cd_t hc hf
    refine lv_iconst (v := 0) hx hb d_X_isStretch_24 (by decide) ?_
    exact g_iret hx hb hr hlocks hR hS hf rfl d_X_isStretch_25
  have hf := cd_f hc hf
  refine lv_iload_n hx hb d_X_isStretch_8 rfl (lv_at hl 2 rfl) ?_
  refine lv_iload_n hx hb d_X_isStretch_9 rfl (lv_at hl 0 rfl) ?_
  refine lv_icmp_gt (tgt := 24) hx hb d_X_isStretch_10 (by decide) (fun hc => ?_) (fun hc => ?_)
  · have hf := cd_t hc hf
    refine lv_iconst (v := 0) hx hb d_X_isStretch_24 (by decide) ?_
    exact g_iret hx hb hr hlocks hR hS hf rfl d_X_isStretch_25
  have hf := cd_f hc hf
  refine lv_iload_n hx hb d_X_isStretch_13 rfl (lv_at hl 1 rfl) ?_
  refine lv_iload_n hx hb d_X_isStretch_14 rfl (lv_at hl 0 rfl) ?_
  refine lv_iload_n hx hb d_X_isStretch_15 rfl (lv_at hl 2 rfl) ?_
  refine lv_isub hx hb d_X_isStretch_16 ?_
  refine g_nI hf (fun x1 hf => ?_)
  refine lv_icmp_gt (tgt := 24) hx hb d_X_isStretch_17 (by decide) (fun hc => ?_) (fun hc => ?_)
  · have hf := cd_t hc hf
    refine lv_iconst (v := 0) hx hb d_X_isStretch_24 (by decide) ?_
    exact g_iret hx hb hr hlocks hR hS hf rfl d_X_isStretch_25
  have hf := cd_f hc hf
  refine lv_iconst (v := 1) hx hb d_X_isStretch_20 (by decide) ?_
  refine lv_goto (tgt := 25) hx hb d_X_isStretch_21 (by decide) ?_
  exact g_iret hx hb hr hlocks hR hS hf rfl d_X_isStretch_25
theorem c_X_isStretch (l : Launch) (D : va_G) (cA : Nat → ClassId) (oc : gO) (B N : Nat) (a0 : Int32) (a1 : Int32) (a2 : Int32) (w : gW) {wz : gW} {r : Int32} (hf : f_X_isStretch N a0 a1 a2 w = some (r, wz)) : Met l y_X_isStretch (Cond.code y_X_isStretch b_X_isStretch 3 (some .boolean) :: lw_good) ({ frames := 1, cells := 0, slots := 0, locals := 40 } : Room) (gPre D cA oc B [.int a0, .int a1, .int a2] w) (gQi D cA B r wz) 0 0 (gA B) := by
  refine Met.ofW (cc := b_X_isStretch) (maxL := 3) (ret := (some .boolean)) (by decide +kernel) rfl ?_
  intro p e s m args below meth c s₁ Bd hml hv
  obtain ⟨hargs, C, hR⟩ := gC.enter (l := l) rfl Bd hml hv
  subst hargs
  have hl := lv_entry ([.int a0, .int a1, .int a2]) (n := 3) (Nat.le_of_ble_eq_true rfl)
  rw [lg_entry_eq]
  generalize (lg_sl ([.int a0, .int a1, .int a2]) ++ List.replicate (3 - (lg_sl ([.int a0, .int a1, .int a2])).length) Slot.unset).toArray = ls at hl ⊢
  have hl : lv_has ls 3 [(0, .int a0), (1, .int a1), (2, .int a2)] := hl
  exact c_X_isStretch_b0 C a0 a1 a2 w (lv_sub hl [0, 1, 2] rfl) hf hR va_S.rf
theorem d_X_shift_0 : decode b_X_shift 0 = .ok (.iload_n 1, 1) := by decide +kernel
theorem d_X_shift_1 : decode b_X_shift 1 = .ok (.invokestatic 242, 3) := by decide +kernel
theorem d_X_shift_4 : decode b_X_shift 4 = .ok (.ifCond .eq 10, 3) := by decide +kernel
theorem d_X_shift_7 : decode b_X_shift 7 = .ok (.iload_n 3, 1) := by decide +kernel
theorem d_X_shift_8 : decode b_X_shift 8 = .ok (.invokestatic 242, 3) := by decide +kernel
theorem d_X_shift_11 : decode b_X_shift 11 = .ok (.ifCond .ne 5, 3) := by decide +kernel
theorem d_X_shift_14 : decode b_X_shift 14 = .ok (.iconst (-1), 1) := by decide +kernel
theorem d_X_shift_15 : decode b_X_shift 15 = .ok (.ireturn, 1) := by decide +kernel
theorem d_X_shift_16 : decode b_X_shift 16 = .ok (.aload_n 0, 1) := by decide +kernel
theorem d_X_shift_17 : decode b_X_shift 17 = .ok (.getfield 66, 3) := by decide +kernel
theorem d_X_shift_20 : decode b_X_shift 20 = .ok (.iload_n 1, 1) := by decide +kernel
theorem d_X_shift_21 : decode b_X_shift 21 = .ok (.iaload, 1) := by decide +kernel
theorem d_X_shift_22 : decode b_X_shift 22 = .ok (.iconst (-1), 1) := by decide +kernel
theorem d_X_shift_23 : decode b_X_shift 23 = .ok (.if_icmp .eq 13, 3) := by decide +kernel
theorem d_X_shift_26 : decode b_X_shift 26 = .ok (.aload_n 0, 1) := by decide +kernel
theorem d_X_shift_27 : decode b_X_shift 27 = .ok (.getfield 66, 3) := by decide +kernel
theorem d_X_shift_30 : decode b_X_shift 30 = .ok (.iload_n 3, 1) := by decide +kernel
theorem d_X_shift_31 : decode b_X_shift 31 = .ok (.iaload, 1) := by decide +kernel
theorem d_X_shift_32 : decode b_X_shift 32 = .ok (.iconst (-1), 1) := by decide +kernel
theorem d_X_shift_33 : decode b_X_shift 33 = .ok (.if_icmp .ne 6, 3) := by decide +kernel
theorem d_X_shift_36 : decode b_X_shift 36 = .ok (.bipush (-11), 2) := by decide +kernel
theorem d_X_shift_38 : decode b_X_shift 38 = .ok (.ireturn, 1) := by decide +kernel
theorem d_X_shift_39 : decode b_X_shift 39 = .ok (.aload_n 0, 1) := by decide +kernel
theorem d_X_shift_40 : decode b_X_shift 40 = .ok (.getfield 66, 3) := by decide +kernel
theorem d_X_shift_43 : decode b_X_shift 43 = .ok (.iload_n 1, 1) := by decide +kernel
theorem d_X_shift_44 : decode b_X_shift 44 = .ok (.iaload, 1) := by decide +kernel
theorem d_X_shift_45 : decode b_X_shift 45 = .ok (.aload_n 0, 1) := by decide +kernel
theorem d_X_shift_46 : decode b_X_shift 46 = .ok (.getfield 66, 3) := by decide +kernel
theorem d_X_shift_49 : decode b_X_shift 49 = .ok (.iload_n 3, 1) := by decide +kernel
theorem d_X_shift_50 : decode b_X_shift 50 = .ok (.iaload, 1) := by decide +kernel
theorem d_X_shift_51 : decode b_X_shift 51 = .ok (.if_icmp .eq 6, 3) := by decide +kernel
theorem d_X_shift_54 : decode b_X_shift 54 = .ok (.bipush (-12), 2) := by decide +kernel
theorem d_X_shift_56 : decode b_X_shift 56 = .ok (.ireturn, 1) := by decide +kernel
theorem d_X_shift_57 : decode b_X_shift 57 = .ok (.aload_n 0, 1) := by decide +kernel
theorem d_X_shift_58 : decode b_X_shift 58 = .ok (.getfield 70, 3) := by decide +kernel
theorem d_X_shift_61 : decode b_X_shift 61 = .ok (.iload_n 1, 1) := by decide +kernel
theorem d_X_shift_62 : decode b_X_shift 62 = .ok (.iaload, 1) := by decide +kernel
theorem d_X_shift_63 : decode b_X_shift 63 = .ok (.iload_n 2, 1) := by decide +kernel
theorem d_X_shift_64 : decode b_X_shift 64 = .ok (.iload 5, 2) := by decide +kernel
theorem d_X_shift_66 : decode b_X_shift 66 = .ok (.invokestatic 269, 3) := by decide +kernel
theorem d_X_shift_69 : decode b_X_shift 69 = .ok (.ifCond .eq 19, 3) := by decide +kernel
theorem d_X_shift_72 : decode b_X_shift 72 = .ok (.aload_n 0, 1) := by decide +kernel
theorem d_X_shift_73 : decode b_X_shift 73 = .ok (.getfield 70, 3) := by decide +kernel
theorem d_X_shift_76 : decode b_X_shift 76 = .ok (.iload_n 3, 1) := by decide +kernel
theorem d_X_shift_77 : decode b_X_shift 77 = .ok (.iaload, 1) := by decide +kernel
theorem d_X_shift_78 : decode b_X_shift 78 = .ok (.iload 4, 2) := by decide +kernel
theorem d_X_shift_80 : decode b_X_shift 80 = .ok (.iload 5, 2) := by decide +kernel
theorem d_X_shift_82 : decode b_X_shift 82 = .ok (.invokestatic 269, 3) := by decide +kernel
theorem d_X_shift_85 : decode b_X_shift 85 = .ok (.ifCond .ne 6, 3) := by decide +kernel
theorem d_X_shift_88 : decode b_X_shift 88 = .ok (.bipush (-13), 2) := by decide +kernel
theorem d_X_shift_90 : decode b_X_shift 90 = .ok (.ireturn, 1) := by decide +kernel
theorem d_X_shift_91 : decode b_X_shift 91 = .ok (.aload_n 0, 1) := by decide +kernel
theorem d_X_shift_92 : decode b_X_shift 92 = .ok (.getfield 75, 3) := by decide +kernel
theorem d_X_shift_95 : decode b_X_shift 95 = .ok (.iload_n 1, 1) := by decide +kernel
theorem d_X_shift_96 : decode b_X_shift 96 = .ok (.aaload, 1) := by decide +kernel
theorem d_X_shift_97 : decode b_X_shift 97 = .ok (.iload_n 2, 1) := by decide +kernel
theorem d_X_shift_98 : decode b_X_shift 98 = .ok (.aload_n 0, 1) := by decide +kernel
theorem d_X_shift_99 : decode b_X_shift 99 = .ok (.getfield 75, 3) := by decide +kernel
theorem d_X_shift_102 : decode b_X_shift 102 = .ok (.iload_n 3, 1) := by decide +kernel
theorem d_X_shift_103 : decode b_X_shift 103 = .ok (.aaload, 1) := by decide +kernel
theorem d_X_shift_104 : decode b_X_shift 104 = .ok (.iload 4, 2) := by decide +kernel
theorem d_X_shift_106 : decode b_X_shift 106 = .ok (.iload 5, 2) := by decide +kernel
theorem d_X_shift_108 : decode b_X_shift 108 = .ok (.invokestatic 273, 3) := by decide +kernel
theorem d_X_shift_111 : decode b_X_shift 111 = .ok (.iload 5, 2) := by decide +kernel
theorem d_X_shift_113 : decode b_X_shift 113 = .ok (.ireturn, 1) := by decide +kernel
set_option maxRecDepth 20000 in
theorem c_X_shift_b0 {r : Int32} {wz : gW} (C : gC p s m args meth c "RidCoppers" b_X_shift 6 (some .int) D cA oc B) (a0 : Nat) (a1 : Int32) (a2 : Int32) (a3 : Int32) (a4 : Int32) (a5 : Int32) (w : gW) {ls : Array Slot} {H : Heap} {locs : List Loc} (hl : lv_has ls 6 [(0, .ref (B + a0)), (1, .int a1), (2, .int a2), (3, .int a3), (4, .int a4), (5, .int a5)]) (hf : f_X_shift_b0 N a0 a1 a2 a3 a4 a5 w = some (r, wz)) (hR : gRep D cA B w H) (hS : va_S (gA B) s.heap H locs) : W p l e ({ frames := 2, cells := 0, slots := 0, locals := 62 } : Room) s m args below meth c H locs 0 0 (MQ below (gQi D cA B r wz) args s 0 0 (gA B)) (F0 m 0 ls []) := by
  obtain ⟨hx, hb, hml, hown, hts, hr, hlocks, hK, hBs⟩ := id C
  unfold f_X_shift_b0 at hf
  refine lv_iload_n hx hb d_X_shift_0 rfl (lv_at hl 1 rfl) ?_
  have ⟨x1, w2, h3, hf⟩ := kl_e hf
  refine g_ki0 (g_rS (As := [.int a1]) (rest := []) hx hb hml hown hts hK hR hS (c_X_isTape l D cA oc B N a1 w h3) I_X_isTape m_844 rfl rfl (Nat.le_of_ble_eq_true rfl) hl.1 ⟨Nat.le_of_ble_eq_true rfl, Nat.le_of_ble_eq_true rfl⟩ ⟨Nat.le_of_ble_eq_true rfl, Nat.le_of_ble_eq_true rfl⟩ d_X_shift_1) hS (fun H locs hR hS => ?_)
  refine lv_if_eq (tgt := 14) hx hb d_X_shift_4 (by decide) (fun hc => ?_) (fun hc => ?_)
  · have hf := cd_t hc hf
    refine lv_iconst (v := (-1)) hx hb d_X_shift_14 (by decide) ?_
    exact g_iret hx hb hr hlocks hR hS hf rfl d_X_shift_15
  have hf := cd_f hc hf
  refine lv_iload_n hx hb d_X_shift_7 rfl (lv_at hl 3 rfl) ?_
  have ⟨x4, w5, h6, hf⟩ := kl_e hf
  refine g_ki0 (g_rS (As := [.int a3]) (rest := []) hx hb hml hown hts hK hR hS (c_X_isTape l D cA oc B N a3 w2 h6) I_X_isTape m_844 rfl rfl (Nat.le_of_ble_eq_true rfl) hl.1 ⟨Nat.le_of_ble_eq_true rfl, Nat.le_of_ble_eq_true rfl⟩ ⟨Nat.le_of_ble_eq_true rfl, Nat.le_of_ble_eq_true rfl⟩ d_X_shift_8) hS (fun H locs hR hS => ?_)
  refine lv_if_ne (tgt := 16) hx hb d_X_shift_11 (by decide) (fun hc => ?_) (fun hc => ?_)
  · have hf := cd_f hc hf
    refine lv_aload_n hx hb d_X_shift_16 rfl (lv_at hl 0 rfl) ?_
    have ⟨h7, hf⟩ := gd_e hf
    have ⟨x8, h9, hf⟩ := rr_e hf
    refine g_getR hx hb hts hown hK hR fl_X_66 (fun _ => rfl) h7 h9 d_X_shift_17 ?_
    refine lv_iload_n hx hb d_X_shift_20 rfl (lv_at hl 1 rfl) ?_
    have ⟨h10, hf⟩ := gd_e hf
    have ⟨h11, hf⟩ := gd_e hf
    refine g_iald hx hb hK hR h10 h11 d_X_shift_21 ?_
    refine g_nI hf (fun x12 hf => ?_)
    refine lv_iconst (v := (-1)) hx hb d_X_shift_22 (by decide) ?_
    refine lv_icmp_eq (tgt := 36) hx hb d_X_shift_23 (by decide) (fun hc => ?_) (fun hc => ?_)
    · have hf := cd_t hc hf
      refine lv_bipush (v := (-11)) hx hb d_X_shift_36 (by decide) ?_
      exact g_iret hx hb hr hlocks hR hS hf rfl d_X_shift_38
    have hf := cd_f hc hf
    refine lv_aload_n hx hb d_X_shift_26 rfl (lv_at hl 0 rfl) ?_
    refine g_getR hx hb hts hown hK hR fl_X_66 (fun _ => rfl) h7 h9 d_X_shift_27 ?_
    refine lv_iload_n hx hb d_X_shift_30 rfl (lv_at hl 3 rfl) ?_
    have ⟨h13, hf⟩ := gd_e hf
    refine g_iald hx hb hK hR h10 h13 d_X_shift_31 ?_
    refine g_nI hf (fun x14 hf => ?_)
    refine lv_iconst (v := (-1)) hx hb d_X_shift_32 (by decide) ?_
    refine lv_icmp_ne (tgt := 39) hx hb d_X_shift_33 (by decide) (fun hc => ?_) (fun hc => ?_)
    · have hf := cd_f hc hf
      refine lv_aload_n hx hb d_X_shift_39 rfl (lv_at hl 0 rfl) ?_
      refine g_getR hx hb hts hown hK hR fl_X_66 (fun _ => rfl) h7 h9 d_X_shift_40 ?_
      refine lv_iload_n hx hb d_X_shift_43 rfl (lv_at hl 1 rfl) ?_
      refine g_iald hx hb hK hR h10 h11 d_X_shift_44 ?_
      refine g_nI hf (fun x15 hf => ?_)
      refine lv_aload_n hx hb d_X_shift_45 rfl (lv_at hl 0 rfl) ?_
      refine g_getR hx hb hts hown hK hR fl_X_66 (fun _ => rfl) h7 h9 d_X_shift_46 ?_
      refine lv_iload_n hx hb d_X_shift_49 rfl (lv_at hl 3 rfl) ?_
      refine g_iald hx hb hK hR h10 h13 d_X_shift_50 ?_
      refine g_nI hf (fun x16 hf => ?_)
      refine lv_icmp_eq (tgt := 57) hx hb d_X_shift_51 (by decide) (fun hc => ?_) (fun hc => ?_)
      · have hf := cd_t hc hf
        refine lv_aload_n hx hb d_X_shift_57 rfl (lv_at hl 0 rfl) ?_
        have ⟨x17, h18, hf⟩ := rr_e hf
        refine g_getR hx hb hts hown hK hR fl_X_70 (fun _ => rfl) h7 h18 d_X_shift_58 ?_
        refine lv_iload_n hx hb d_X_shift_61 rfl (lv_at hl 1 rfl) ?_
        have ⟨h19, hf⟩ := gd_e hf
        have ⟨h20, hf⟩ := gd_e hf
        refine g_iald hx hb hK hR h19 h20 d_X_shift_62 ?_
        refine g_nI hf (fun x21 hf => ?_)
        refine lv_iload_n hx hb d_X_shift_63 rfl (lv_at hl 2 rfl) ?_
        refine lv_iload hx hb d_X_shift_64 (lv_at hl 5 rfl) ?_
        have ⟨x22, w23, h24, hf⟩ := kl_e hf
        refine g_ki0 (g_rS (As := [.int x21, .int a2, .int a5]) (rest := []) hx hb hml hown hts hK hR hS (c_X_isStretch l D cA oc B N x21 a2 a5 w5 h24) I_X_isStretch m_972 rfl rfl (Nat.le_of_ble_eq_true rfl) hl.1 ⟨Nat.le_of_ble_eq_true rfl, Nat.le_of_ble_eq_true rfl⟩ ⟨Nat.le_of_ble_eq_true rfl, Nat.le_of_ble_eq_true rfl⟩ d_X_shift_66) hS (fun H locs hR hS => ?_)
        refine lv_if_eq (tgt := 88) hx hb d_X_shift_69 (by decide) (fun hc => ?_) (fun hc => ?_)
        · have hf := cd_t hc hf
          refine lv_bipush (v := (-13)) hx hb d_X_shift_88 (by decide) ?_
          exact g_iret hx hb hr hlocks hR hS hf rfl d_X_shift_90
        have hf := cd_f hc hf
        refine lv_aload_n hx hb d_X_shift_72 rfl (lv_at hl 0 rfl) ?_
        have ⟨h25, hf⟩ := gd_e hf
        have ⟨x26, h27, hf⟩ := rr_e hf
        refine g_getR hx hb hts hown hK hR fl_X_70 (fun _ => rfl) h25 h27 d_X_shift_73 ?_
        refine lv_iload_n hx hb d_X_shift_76 rfl (lv_at hl 3 rfl) ?_
        have ⟨h28, hf⟩ := gd_e hf
        have ⟨h29, hf⟩ := gd_e hf
        refine g_iald hx hb hK hR h28 h29 d_X_shift_77 ?_
        refine g_nI hf (fun x30 hf => ?_)
        refine lv_iload hx hb d_X_shift_78 (lv_at hl 4 rfl) ?_
        refine lv_iload hx hb d_X_shift_80 (lv_at hl 5 rfl) ?_
        have ⟨x31, w32, h33, hf⟩ := kl_e hf
        refine g_ki0 (g_rS (As := [.int x30, .int a4, .int a5]) (rest := []) hx hb hml hown hts hK hR hS (c_X_isStretch l D cA oc B N x30 a4 a5 w23 h33) I_X_isStretch m_972 rfl rfl (Nat.le_of_ble_eq_true rfl) hl.1 ⟨Nat.le_of_ble_eq_true rfl, Nat.le_of_ble_eq_true rfl⟩ ⟨Nat.le_of_ble_eq_true rfl, Nat.le_of_ble_eq_true rfl⟩ d_X_shift_82) hS (fun H locs hR hS => ?_)
        refine lv_if_ne (tgt := 91) hx hb d_X_shift_85 (by decide) (fun hc => ?_) (fun hc => ?_)
        · have hf := cd_f hc hf
          refine lv_aload_n hx hb d_X_shift_91 rfl (lv_at hl 0 rfl) ?_
          have ⟨h34, hf⟩ := gd_e hf
          have ⟨x35, h36, hf⟩ := rr_e hf
          refine g_getR hx hb hts hown hK hR fl_X_75 (fun _ => rfl) h34 h36 d_X_shift_92 ?_
          refine lv_iload_n hx hb d_X_shift_95 rfl (lv_at hl 1 rfl) ?_
          have ⟨h37, hf⟩ := gd_e hf
          have ⟨h38, hf⟩ := gd_e hf
          have ⟨x39, h40, hf⟩ := rr_e hf
          refine g_aald hx hb hK hR (by decide) rfl (fun _ _ => rfl) h37 h38 h40 d_X_shift_96 ?_
          refine lv_iload_n hx hb d_X_shift_97 rfl (lv_at hl 2 rfl) ?_
          refine lv_aload_n hx hb d_X_shift_98 rfl (lv_at hl 0 rfl) ?_
          refine g_getR hx hb hts hown hK hR fl_X_75 (fun _ => rfl) h34 h36 d_X_shift_99 ?_
          refine lv_iload_n hx hb d_X_shift_102 rfl (lv_at hl 3 rfl) ?_
          have ⟨h41, hf⟩ := gd_e hf
          have ⟨x42, h43, hf⟩ := rr_e hf
          refine g_aald hx hb hK hR (by decide) rfl (fun _ _ => rfl) h37 h41 h43 d_X_shift_103 ?_
          refine lv_iload hx hb d_X_shift_104 (lv_at hl 4 rfl) ?_
          refine lv_iload hx hb d_X_shift_106 (lv_at hl 5 rfl) ?_
          have ⟨h44, hf⟩ := gd_e hf
          have ⟨h45, hf⟩ := gd_e hf
          have ⟨h46, hf⟩ := gd_e hf
          have ⟨h47, hf⟩ := gd_e hf
          have ⟨h48, hf⟩ := gd_e hf
          have ⟨h49, hf⟩ := gd_e hf
          have ⟨h50, hf⟩ := gd_e hf
          refine g_copyL hx hb (hml.trans hl.1.symm) hts hown hK hR hS m_975 m_706 m_705 m_20 h44 h45 h46 h47 h48 h49 h50 (Nat.le_of_ble_eq_true rfl) (Nat.le_of_ble_eq_true rfl) d_X_shift_108 (fun H locs hR hS => ?_)
          refine g_nW hf hR (fun w51 hf hR => ?_)
          refine lv_iload hx hb d_X_shift_111 (lv_at hl 5 rfl) ?_
          exact g_iret hx hb hr hlocks hR hS hf rfl d_X_shift_113
        have hf := cd_t hc hf
        refine lv_bipush (v := (-13)) hx hb d_X_shift_88 (by decide) ?_
        exact g_iret hx hb hr hlocks hR hS hf rfl d_X_shift_90
      have hf := cd_f hc hf
      refine lv_bipush (v := (-12)) hx hb d_X_shift_54 (by decide) ?_
      exact g_iret hx hb hr hlocks hR hS hf rfl d_X_shift_56
    have hf := cd_t hc hf
    refine lv_bipush (v := (-11)) hx hb d_X_shift_36 (by decide) ?_
    exact g_iret hx hb hr hlocks hR hS hf rfl d_X_shift_38
  have hf := cd_t hc hf
  refine lv_iconst (v := (-1)) hx hb d_X_shift_14 (by decide) ?_
  exact g_iret hx hb hr hlocks hR hS hf rfl d_X_shift_15
theorem c_X_shift (l : Launch) (D : va_G) (cA : Nat → ClassId) (oc : gO) (B N : Nat) (a0 : Nat) (a1 : Int32) (a2 : Int32) (a3 : Int32) (a4 : Int32) (a5 : Int32) (w : gW) {wz : gW} {r : Int32} (hf : f_X_shift N a0 a1 a2 a3 a4 a5 w = some (r, wz)) : Met l y_X_shift (Cond.code y_X_shift b_X_shift 6 (some .int) :: lw_good) ({ frames := 2, cells := 0, slots := 0, locals := 62 } : Room) (gPre D cA oc B [.ref (B + a0), .int a1, .int a2, .int a3, .int a4, .int a5] w) (gQi D cA B r wz) 0 0 (gA B) := by
  refine Met.ofW (cc := b_X_shift) (maxL := 6) (ret := (some .int)) (by decide +kernel) rfl ?_
  intro p e s m args below meth c s₁ Bd hml hv
  obtain ⟨hargs, C, hR⟩ := gC.enter (l := l) rfl Bd hml hv
  subst hargs
  have hl := lv_entry ([.ref (B + a0), .int a1, .int a2, .int a3, .int a4, .int a5]) (n := 6) (Nat.le_of_ble_eq_true rfl)
  rw [lg_entry_eq]
  generalize (lg_sl ([.ref (B + a0), .int a1, .int a2, .int a3, .int a4, .int a5]) ++ List.replicate (6 - (lg_sl ([.ref (B + a0), .int a1, .int a2, .int a3, .int a4, .int a5])).length) Slot.unset).toArray = ls at hl ⊢
  have hl : lv_has ls 6 [(0, .ref (B + a0)), (1, .int a1), (2, .int a2), (3, .int a3), (4, .int a4), (5, .int a5)] := hl
  exact c_X_shift_b0 C a0 a1 a2 a3 a4 a5 w (lv_sub hl [0, 1, 2, 3, 4, 5] rfl) hf hR va_S.rf
