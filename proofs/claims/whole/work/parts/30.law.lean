/-! THE CLAIM OUT OF ONE WALK OF THE LAW'S BODY. Your part is whole_start (and what it stands on); all else here is the same for every law, but numbers. -/
def R_law : String := "RidCoppersLaw"
def lw_P (b : Addr) (xs : List Int32) (args : Array Value) (s : State) : Prop := args = #[.ref b] ∧ s.IntsAt b xs ∧ xs.length ≤ 3072 ∧ (Jvm.Cond.and given_1 narrow_1).before args s = true
def lw_Q (_ : Array Value) (s : State) (o : Outcome) (t : State) : Prop := o = .returned (some (.int 1)) ∧ Framed s o t [] 605105 7286932
def lw_Z (below : List Frame) (a : Array Value) (s : State) : State → Prop := fun t => ∃ o, t.status = .running ∧ Ended t below o ∧ lw_Q a s o t
/-- the law's own end, with 1 on the stack, nothing written that was there before, its room as the claim has it -/
theorem lw_ret {p : Program} {l : Launch} {e : Env} {s : State} {m : MethodId} {below : List Frame} {meth : Method} {c : Code} {b : Nat} (hx : p.tables.exec = Jvm.exec) (hb : c.code = code) (hr : meth.sig.returnType = ret) (hlocks : meth.locks = false) {pc : Nat} {H : Heap} {ls : Array Slot} (hdg : decode code pc = .ok (.ireturn, 1)) : W p l e room_1 s m #[Value.ref b] below meth c H [] 605105 7286932 (lw_Z below #[Value.ref b] s) (F0 m pc ls [.int 1]) := by
  intro T hT X
  obtain ⟨fs, hret, hrun, hended, hW, hframe⟩ := X.leave (v := some (.int 1)) (hlocks := hlocks) (fun h => by rw [hr] at h; cases h)
  have hmeth' : T.vm.method? m = some meth := X.method'
  refine ⟨T.setFrames fs, ?_, .returned (some (.int 1)), hrun, hended, rfl, ⟨_, rfl⟩, hW, hframe⟩
  jvm_step X.here [X.here.top, hx, hb, hdg, hmeth', hr, ret, narrow_b1]
  (try refine ⟨rfl, ?_⟩); (try refine ⟨rfl, ?_⟩)
  first | (intro acts; rw [hret _ acts rfl rfl rfl]) | rw [hret _ _ rfl rfl rfl]
  exact Steps.refl _
/-- what holds at the law's entry: the machine, the code, the tables' words (any of lw_tbl by 'hts w (by decide +kernel)'), the script of L ints xs at the cell b, what the Statement gives of the start (any of its parts by flat_of_before) -/
def lw_At (p : Program) (s : State) (m : MethodId) (meth : Method) (c : Code) (b L : Nat) (xs : Nat → Int32) : Prop :=
  p.tables.exec = Jvm.exec ∧ c.code = code ∧ meth.sig.returnType = ret ∧ c.maxLocals = 4 ∧ s.vm.findClass R_law = some m.cls ∧ (∀ w ∈ lw_tbl, w.before #[Value.ref b] s = true) ∧ va_X b L xs s s.heap ∧ b < s.heap.size ∧ meth.locks = false ∧ (Jvm.Cond.and given_1 narrow_1).before #[Value.ref b] s = true
/-- what holds in the law's body -/
def gLw (p : Program) (s : State) (m : MethodId) (meth : Method) (c : Code) (b L : Nat) (xs : Nat → Int32) (D : va_G) (cA : Nat → ClassId) (oc : gO) (B : Nat) : Prop :=
  p.tables.exec = Jvm.exec ∧ c.code = code ∧ c.maxLocals = 4 ∧ s.vm.findClass "RidCoppersLaw" = some m.cls ∧ (∀ w ∈ lw_good, w.before #[Value.ref b] s = true) ∧ meth.sig.returnType = ret ∧ meth.locks = false ∧ gK D cA oc B s s.heap ∧ B = s.heap.size ∧ va_X b L xs s s.heap ∧ b < s.heap.size ∧ ¬ gA B b
variable {p : Program} {l : Launch} {e : Env} {s : State} {m : MethodId} {below : List Frame} {meth : Method} {c : Code} {D : va_G} {cA : Nat → ClassId} {oc : gO} {B N b L : Nat} {xs : Nat → Int32}
set_option maxRecDepth 20000 in
theorem c_Law_law_b18 {r : Int32} {wz : gW} {rec18 : Nat × Nat × Int32 × Nat × Nat × gW → Option (Int32 × gW)} (ih18 : ∀ (a1 : Nat) (a2 : Nat) (a3 : Int32) (kc : Nat) (ks : Nat) (w : gW) (ls : Array Slot) (H : Heap) (locs : List Loc), rec18 (a1, a2, a3, kc, ks, w) = some (r, wz) → lv_has ls 4 [(0, .ref b), (1, .ref (B + a1)), (2, .ref (B + a2)), (3, .int a3)] → gRep D cA B w H → va_S (gA B) s.heap H locs → W p l e room_1 s m #[Value.ref b] below meth c H locs kc ks (lw_Z below #[Value.ref b] s) (F0 m 18 ls [])) (C : gLw p s m meth c b L xs D cA oc B) (a1 : Nat) (a2 : Nat) (a3 : Int32) (kc : Nat) (ks : Nat) (w : gW) {ls : Array Slot} {H : Heap} {locs : List Loc} (hl : lv_has ls 4 [(0, .ref b), (1, .ref (B + a1)), (2, .ref (B + a2)), (3, .int a3)]) (hf : f_Law_law_b18 N L xs rec18 a1 a2 a3 kc ks w = some (r, wz)) (hR : gRep D cA B w H) (hS : va_S (gA B) s.heap H locs) : W p l e room_1 s m #[Value.ref b] below meth c H locs kc ks (lw_Z below #[Value.ref b] s) (F0 m 18 ls []) := by
  obtain ⟨hx, hb, hml, hown, hts, hr, hlocks, hK, hBe, hX, hbl, hbA⟩ := id C
  unfold f_Law_law_b18 at hf
  refine lv_iload_n hx hb d_Law_law_18 rfl (lv_at hl 3 rfl) ?_
  refine lv_aload_n hx hb d_Law_law_19 rfl (lv_at hl 0 rfl) ?_
  refine va_slen hx hb hX hbl hbA hS d_Law_law_20 ?_
  refine g_nI hf (fun x13 hf => ?_)
  refine lv_bipush (v := 6) hx hb d_Law_law_21 (by decide) ?_
  refine lv_isub hx hb d_Law_law_23 ?_
  refine g_nI hf (fun x14 hf => ?_)
  refine lv_icmp_gt (tgt := 1329) hx hb d_Law_law_24 (by decide) (fun hc => ?_) (fun hc => ?_)
  · have hf := cd_t hc hf
    refine lv_iconst (v := 1) hx hb d_Law_law_1329 (by decide) ?_
    have ⟨h15, hf⟩ := gd_e hf
    refine va_forget (fun q hq => by have := hS.2.2 q hq; rw [hBe] at this; exact this) ?_
    refine W.widen (k := 605105) (n := 7286932) h15.1 h15.2 ?_
    exact lw_ret hx hb hr hlocks d_Law_law_1330
  have hf := cd_f hc hf
  refine lv_aload_n hx hb d_Law_law_27 rfl (lv_at hl 0 rfl) ?_
  refine lv_iload_n hx hb d_Law_law_28 rfl (lv_at hl 3 rfl) ?_
  have ⟨h16, hf⟩ := gd_e hf
  refine va_sld hx hb hX hbl hbA hS h16 d_Law_law_29 ?_
  refine g_nI hf (fun x17 hf => ?_)
  refine lv_bipush (v := 63) hx hb d_Law_law_30 (by decide) ?_
  refine lv_iand hx hb d_Law_law_32 ?_
  refine g_nI hf (fun x18 hf => ?_)
  by_cases hc19 : x18 = 0
  · refine lv_tableIn (off := 159) (tgt := 192) hx hb d_Law_law_33 (by rw [hc19]; decide) (by rw [hc19]; decide) (by rw [hc19]; rfl) (by decide) ?_
    have hf := cd_t hc19 hf
    refine lv_aload_n hx hb d_Law_law_192 rfl (lv_at hl 1 rfl) ?_
    refine lv_aload_n hx hb d_Law_law_193 rfl (lv_at hl 0 rfl) ?_
    refine lv_iload_n hx hb d_Law_law_194 rfl (lv_at hl 3 rfl) ?_
    refine lv_iconst (v := 1) hx hb d_Law_law_195 (by decide) ?_
    refine lv_iadd hx hb d_Law_law_196 ?_
    refine g_nI hf (fun x20 hf => ?_)
    have ⟨h21, hf⟩ := gd_e hf
    refine va_sld hx hb hX hbl hbA hS h21 d_Law_law_197 ?_
    refine g_nI hf (fun x22 hf => ?_)
    refine lv_aload_n hx hb d_Law_law_198 rfl (lv_at hl 0 rfl) ?_
    refine lv_iload_n hx hb d_Law_law_199 rfl (lv_at hl 3 rfl) ?_
    refine lv_iconst (v := 2) hx hb d_Law_law_200 (by decide) ?_
    refine lv_iadd hx hb d_Law_law_201 ?_
    refine g_nI hf (fun x23 hf => ?_)
    have ⟨h24, hf⟩ := gd_e hf
    refine va_sld hx hb hX hbl hbA hS h24 d_Law_law_202 ?_
    refine g_nI hf (fun x25 hf => ?_)
    have ⟨h29, hf⟩ := gd_e hf
    have ⟨h30, hf⟩ := gd_e hf
    have ⟨x26, w27, h28, hf⟩ := kl_e hf
    refine g_ki (g_rV (As := [.int x22, .int x25]) (rest := []) hx hb hml hown hts hK hR hS (c_X_payer l D cA oc B N a1 x22 x25 w h28) I_X_payer m_274 m_276 (gRecv hK hR (ci := 11) rfl h29) rfl rfl (Nat.le_of_ble_eq_true rfl) hl.1 ⟨Nat.le_of_ble_eq_true rfl, Nat.le_of_ble_eq_true rfl⟩ ⟨h30.1, h30.2⟩ d_Law_law_203) hS (fun H locs hR hS => ?_)
    refine lv_aload_n hx hb d_Law_law_206 rfl (lv_at hl 2 rfl) ?_
    refine lv_aload_n hx hb d_Law_law_207 rfl (lv_at hl 0 rfl) ?_
    refine lv_iload_n hx hb d_Law_law_208 rfl (lv_at hl 3 rfl) ?_
    refine lv_iconst (v := 1) hx hb d_Law_law_209 (by decide) ?_
    refine lv_iadd hx hb d_Law_law_210 ?_
    refine g_nI hf (fun x31 hf => ?_)
    have ⟨h32, hf⟩ := gd_e hf
    refine va_sld hx hb hX hbl hbA hS h32 d_Law_law_211 ?_
    refine g_nI hf (fun x33 hf => ?_)
    refine lv_aload_n hx hb d_Law_law_212 rfl (lv_at hl 0 rfl) ?_
    refine lv_iload_n hx hb d_Law_law_213 rfl (lv_at hl 3 rfl) ?_
    refine lv_iconst (v := 2) hx hb d_Law_law_214 (by decide) ?_
    refine lv_iadd hx hb d_Law_law_215 ?_
    refine g_nI hf (fun x34 hf => ?_)
    have ⟨h35, hf⟩ := gd_e hf
    refine va_sld hx hb hX hbl hbA hS h35 d_Law_law_216 ?_
    refine g_nI hf (fun x36 hf => ?_)
    have ⟨h37, hf⟩ := gd_e hf
    have ⟨h41, hf⟩ := gd_e hf
    have ⟨x38, w39, h40, hf⟩ := kl_e hf
    refine g_ki (g_rV (As := [.int x33, .int x36]) (rest := [.int x26]) hx hb hml hown hts hK hR hS (c_M_payer l D cA oc B N a2 x33 x36 w27 h40) I_M_payer m_1200 m_1202 (gRecv hK hR (ci := 12) rfl h41) rfl rfl (Nat.le_of_ble_eq_true rfl) hl.1 ⟨Nat.le_of_ble_eq_true rfl, Nat.le_of_ble_eq_true rfl⟩ ⟨h37.1, h37.2⟩ d_Law_law_217) hS (fun H locs hR hS => ?_)
    refine lv_icmp_eq (tgt := 1323) hx hb d_Law_law_220 (by decide) (fun hc => ?_) (fun hc => ?_)
    · have hf := cd_t hc hf
      refine g_iinc (lv' := fun x42 => [(3, .int x42), (0, .ref b), (1, .ref (B + a1)), (2, .ref (B + a2))]) hf hx hb d_Law_law_1323 hl (k := 3) rfl (by decide) (by decide) (fun _ => rfl) (fun x42 ls hf hl => ?_)
      refine lv_goto (tgt := 18) hx hb d_Law_law_1326 (by decide) ?_
      exact ih18 a1 a2 x42 (kc + 1) (ks + 3) w39 _ _ _ hf (lv_sub hl [1, 2, 3, 0] rfl) hR hS
    have hf := cd_f hc hf
    refine lv_iconst (v := 0) hx hb d_Law_law_223 (by decide) ?_
    cases hf
  have hf := cd_f hc19 hf
  by_cases hc43 : x18 = 1
  · refine lv_tableIn (off := 192) (tgt := 225) hx hb d_Law_law_33 (by rw [hc43]; decide) (by rw [hc43]; decide) (by rw [hc43]; rfl) (by decide) ?_
    have hf := cd_t hc43 hf
    refine lv_aload_n hx hb d_Law_law_225 rfl (lv_at hl 1 rfl) ?_
    refine lv_aload_n hx hb d_Law_law_226 rfl (lv_at hl 0 rfl) ?_
    refine lv_iload_n hx hb d_Law_law_227 rfl (lv_at hl 3 rfl) ?_
    refine lv_iconst (v := 1) hx hb d_Law_law_228 (by decide) ?_
    refine lv_iadd hx hb d_Law_law_229 ?_
    refine g_nI hf (fun x44 hf => ?_)
    have ⟨h45, hf⟩ := gd_e hf
    refine va_sld hx hb hX hbl hbA hS h45 d_Law_law_230 ?_
    refine g_nI hf (fun x46 hf => ?_)
    refine lv_aload_n hx hb d_Law_law_231 rfl (lv_at hl 0 rfl) ?_
    refine lv_iload_n hx hb d_Law_law_232 rfl (lv_at hl 3 rfl) ?_
    refine lv_iconst (v := 2) hx hb d_Law_law_233 (by decide) ?_
    refine lv_iadd hx hb d_Law_law_234 ?_
    refine g_nI hf (fun x47 hf => ?_)
    have ⟨h48, hf⟩ := gd_e hf
    refine va_sld hx hb hX hbl hbA hS h48 d_Law_law_235 ?_
    refine g_nI hf (fun x49 hf => ?_)
    have ⟨h50, hf⟩ := gd_e hf
    have ⟨h54, hf⟩ := gd_e hf
    have ⟨x51, w52, h53, hf⟩ := kl_e hf
    refine g_ki (g_rV (As := [.int x46, .int x49]) (rest := []) hx hb hml hown hts hK hR hS (c_X_of l D cA oc B N a1 x46 x49 w h53) I_X_of m_370 m_372 (gRecv hK hR (ci := 11) rfl h54) rfl rfl (Nat.le_of_ble_eq_true rfl) hl.1 ⟨Nat.le_of_ble_eq_true rfl, Nat.le_of_ble_eq_true rfl⟩ ⟨h50.1, h50.2⟩ d_Law_law_236) hS (fun H locs hR hS => ?_)
    refine lv_aload_n hx hb d_Law_law_239 rfl (lv_at hl 2 rfl) ?_
    refine lv_aload_n hx hb d_Law_law_240 rfl (lv_at hl 0 rfl) ?_
    refine lv_iload_n hx hb d_Law_law_241 rfl (lv_at hl 3 rfl) ?_
    refine lv_iconst (v := 1) hx hb d_Law_law_242 (by decide) ?_
    refine lv_iadd hx hb d_Law_law_243 ?_
    refine g_nI hf (fun x55 hf => ?_)
    have ⟨h56, hf⟩ := gd_e hf
    refine va_sld hx hb hX hbl hbA hS h56 d_Law_law_244 ?_
    refine g_nI hf (fun x57 hf => ?_)
    refine lv_aload_n hx hb d_Law_law_245 rfl (lv_at hl 0 rfl) ?_
    refine lv_iload_n hx hb d_Law_law_246 rfl (lv_at hl 3 rfl) ?_
    refine lv_iconst (v := 2) hx hb d_Law_law_247 (by decide) ?_
    refine lv_iadd hx hb d_Law_law_248 ?_
    refine g_nI hf (fun x58 hf => ?_)
    have ⟨h59, hf⟩ := gd_e hf
    refine va_sld hx hb hX hbl hbA hS h59 d_Law_law_249 ?_
    refine g_nI hf (fun x60 hf => ?_)
    have ⟨h64, hf⟩ := gd_e hf
    have ⟨x61, w62, h63, hf⟩ := kl_e hf
    refine g_ki (g_rV (As := [.int x57, .int x60]) (rest := [.int x51]) hx hb hml hown hts hK hR hS (c_M_of l D cA oc B N a2 x57 x60 w52 h63) I_M_of m_1292 m_1294 (gRecv hK hR (ci := 12) rfl h64) rfl rfl (Nat.le_of_ble_eq_true rfl) hl.1 ⟨Nat.le_of_ble_eq_true rfl, Nat.le_of_ble_eq_true rfl⟩ ⟨h50.1, h50.2⟩ d_Law_law_250) hS (fun H locs hR hS => ?_)
    refine lv_icmp_eq (tgt := 1323) hx hb d_Law_law_253 (by decide) (fun hc => ?_) (fun hc => ?_)
    · have hf := cd_t hc hf
      refine g_iinc (lv' := fun x65 => [(3, .int x65), (0, .ref b), (1, .ref (B + a1)), (2, .ref (B + a2))]) hf hx hb d_Law_law_1323 hl (k := 3) rfl (by decide) (by decide) (fun _ => rfl) (fun x65 ls hf hl => ?_)
      refine lv_goto (tgt := 18) hx hb d_Law_law_1326 (by decide) ?_
      exact ih18 a1 a2 x65 kc ks w62 _ _ _ hf (lv_sub hl [1, 2, 3, 0] rfl) hR hS
    have hf := cd_f hc hf
    refine lv_iconst (v := 0) hx hb d_Law_law_256 (by decide) ?_
    cases hf
  have hf := cd_f hc43 hf
  by_cases hc66 : x18 = 2
  · refine lv_tableIn (off := 225) (tgt := 258) hx hb d_Law_law_33 (by rw [hc66]; decide) (by rw [hc66]; decide) (by rw [hc66]; rfl) (by decide) ?_
    have hf := cd_t hc66 hf
    refine lv_aload_n hx hb d_Law_law_258 rfl (lv_at hl 1 rfl) ?_
    refine lv_aload_n hx hb d_Law_law_259 rfl (lv_at hl 0 rfl) ?_
    refine lv_iload_n hx hb d_Law_law_260 rfl (lv_at hl 3 rfl) ?_
    refine lv_iconst (v := 1) hx hb d_Law_law_261 (by decide) ?_
    refine lv_iadd hx hb d_Law_law_262 ?_
    refine g_nI hf (fun x67 hf => ?_)
    have ⟨h68, hf⟩ := gd_e hf
    refine va_sld hx hb hX hbl hbA hS h68 d_Law_law_263 ?_
    refine g_nI hf (fun x69 hf => ?_)
    refine lv_aload_n hx hb d_Law_law_264 rfl (lv_at hl 0 rfl) ?_
    refine lv_iload_n hx hb d_Law_law_265 rfl (lv_at hl 3 rfl) ?_
    refine lv_iconst (v := 2) hx hb d_Law_law_266 (by decide) ?_
    refine lv_iadd hx hb d_Law_law_267 ?_
    refine g_nI hf (fun x70 hf => ?_)
    have ⟨h71, hf⟩ := gd_e hf
    refine va_sld hx hb hX hbl hbA hS h71 d_Law_law_268 ?_
    refine g_nI hf (fun x72 hf => ?_)
    refine lv_aload_n hx hb d_Law_law_269 rfl (lv_at hl 0 rfl) ?_
    refine lv_iload_n hx hb d_Law_law_270 rfl (lv_at hl 3 rfl) ?_
    refine lv_iconst (v := 3) hx hb d_Law_law_271 (by decide) ?_
    refine lv_iadd hx hb d_Law_law_272 ?_
    refine g_nI hf (fun x73 hf => ?_)
    have ⟨h74, hf⟩ := gd_e hf
    refine va_sld hx hb hX hbl hbA hS h74 d_Law_law_273 ?_
    refine g_nI hf (fun x75 hf => ?_)
    have ⟨h76, hf⟩ := gd_e hf
    have ⟨h80, hf⟩ := gd_e hf
    have ⟨x77, w78, h79, hf⟩ := kl_e hf
    refine g_ki (g_rV (As := [.int x69, .int x72, .int x75]) (rest := []) hx hb hml hown hts hK hR hS (c_X_purse l D cA oc B N a1 x69 x72 x75 w h79) I_X_purse m_411 m_413 (gRecv hK hR (ci := 11) rfl h80) rfl rfl (Nat.le_of_ble_eq_true rfl) hl.1 ⟨Nat.le_of_ble_eq_true rfl, Nat.le_of_ble_eq_true rfl⟩ ⟨h76.1, h76.2⟩ d_Law_law_274) hS (fun H locs hR hS => ?_)
    refine lv_aload_n hx hb d_Law_law_277 rfl (lv_at hl 2 rfl) ?_
    refine lv_aload_n hx hb d_Law_law_278 rfl (lv_at hl 0 rfl) ?_
    refine lv_iload_n hx hb d_Law_law_279 rfl (lv_at hl 3 rfl) ?_
    refine lv_iconst (v := 1) hx hb d_Law_law_280 (by decide) ?_
    refine lv_iadd hx hb d_Law_law_281 ?_
    refine g_nI hf (fun x81 hf => ?_)
    have ⟨h82, hf⟩ := gd_e hf
    refine va_sld hx hb hX hbl hbA hS h82 d_Law_law_282 ?_
    refine g_nI hf (fun x83 hf => ?_)
    refine lv_aload_n hx hb d_Law_law_283 rfl (lv_at hl 0 rfl) ?_
    refine lv_iload_n hx hb d_Law_law_284 rfl (lv_at hl 3 rfl) ?_
    refine lv_iconst (v := 2) hx hb d_Law_law_285 (by decide) ?_
    refine lv_iadd hx hb d_Law_law_286 ?_
    refine g_nI hf (fun x84 hf => ?_)
    have ⟨h85, hf⟩ := gd_e hf
    refine va_sld hx hb hX hbl hbA hS h85 d_Law_law_287 ?_
    refine g_nI hf (fun x86 hf => ?_)
    refine lv_aload_n hx hb d_Law_law_288 rfl (lv_at hl 0 rfl) ?_
    refine lv_iload_n hx hb d_Law_law_289 rfl (lv_at hl 3 rfl) ?_
    refine lv_iconst (v := 3) hx hb d_Law_law_290 (by decide) ?_
    refine lv_iadd hx hb d_Law_law_291 ?_
    refine g_nI hf (fun x87 hf => ?_)
    have ⟨h88, hf⟩ := gd_e hf
    refine va_sld hx hb hX hbl hbA hS h88 d_Law_law_292 ?_
    refine g_nI hf (fun x89 hf => ?_)
    have ⟨h93, hf⟩ := gd_e hf
    have ⟨x90, w91, h92, hf⟩ := kl_e hf
    refine g_ki (g_rV (As := [.int x83, .int x86, .int x89]) (rest := [.int x77]) hx hb hml hown hts hK hR hS (c_M_purse l D cA oc B N a2 x83 x86 x89 w78 h92) I_M_purse m_1208 m_1210 (gRecv hK hR (ci := 12) rfl h93) rfl rfl (Nat.le_of_ble_eq_true rfl) hl.1 ⟨Nat.le_of_ble_eq_true rfl, Nat.le_of_ble_eq_true rfl⟩ ⟨h76.1, h76.2⟩ d_Law_law_293) hS (fun H locs hR hS => ?_)
    refine lv_icmp_eq (tgt := 1323) hx hb d_Law_law_296 (by decide) (fun hc => ?_) (fun hc => ?_)
    · have hf := cd_t hc hf
      refine g_iinc (lv' := fun x94 => [(3, .int x94), (0, .ref b), (1, .ref (B + a1)), (2, .ref (B + a2))]) hf hx hb d_Law_law_1323 hl (k := 3) rfl (by decide) (by decide) (fun _ => rfl) (fun x94 ls hf hl => ?_)
      refine lv_goto (tgt := 18) hx hb d_Law_law_1326 (by decide) ?_
      exact ih18 a1 a2 x94 kc ks w91 _ _ _ hf (lv_sub hl [1, 2, 3, 0] rfl) hR hS
    have hf := cd_f hc hf
    refine lv_iconst (v := 0) hx hb d_Law_law_299 (by decide) ?_
    cases hf
  have hf := cd_f hc66 hf
  by_cases hc95 : x18 = 3
  · refine lv_tableIn (off := 268) (tgt := 301) hx hb d_Law_law_33 (by rw [hc95]; decide) (by rw [hc95]; decide) (by rw [hc95]; rfl) (by decide) ?_
    have hf := cd_t hc95 hf
    refine lv_aload_n hx hb d_Law_law_301 rfl (lv_at hl 1 rfl) ?_
    refine lv_aload_n hx hb d_Law_law_302 rfl (lv_at hl 0 rfl) ?_
    refine lv_iload_n hx hb d_Law_law_303 rfl (lv_at hl 3 rfl) ?_
    refine lv_iconst (v := 1) hx hb d_Law_law_304 (by decide) ?_
    refine lv_iadd hx hb d_Law_law_305 ?_
    refine g_nI hf (fun x96 hf => ?_)
    have ⟨h97, hf⟩ := gd_e hf
    refine va_sld hx hb hX hbl hbA hS h97 d_Law_law_306 ?_
    refine g_nI hf (fun x98 hf => ?_)
    refine lv_aload_n hx hb d_Law_law_307 rfl (lv_at hl 0 rfl) ?_
    refine lv_iload_n hx hb d_Law_law_308 rfl (lv_at hl 3 rfl) ?_
    refine lv_iconst (v := 2) hx hb d_Law_law_309 (by decide) ?_
    refine lv_iadd hx hb d_Law_law_310 ?_
    refine g_nI hf (fun x99 hf => ?_)
    have ⟨h100, hf⟩ := gd_e hf
    refine va_sld hx hb hX hbl hbA hS h100 d_Law_law_311 ?_
    refine g_nI hf (fun x101 hf => ?_)
    have ⟨h102, hf⟩ := gd_e hf
    have ⟨h106, hf⟩ := gd_e hf
    have ⟨x103, w104, h105, hf⟩ := kl_e hf
    refine g_ki (g_rV (As := [.int x98, .int x101]) (rest := []) hx hb hml hown hts hK hR hS (c_X_till l D cA oc B N a1 x98 x101 w h105) I_X_till m_418 m_420 (gRecv hK hR (ci := 11) rfl h106) rfl rfl (Nat.le_of_ble_eq_true rfl) hl.1 ⟨Nat.le_of_ble_eq_true rfl, Nat.le_of_ble_eq_true rfl⟩ ⟨h102.1, h102.2⟩ d_Law_law_312) hS (fun H locs hR hS => ?_)
    refine lv_aload_n hx hb d_Law_law_315 rfl (lv_at hl 2 rfl) ?_
    refine lv_aload_n hx hb d_Law_law_316 rfl (lv_at hl 0 rfl) ?_
    refine lv_iload_n hx hb d_Law_law_317 rfl (lv_at hl 3 rfl) ?_
    refine lv_iconst (v := 1) hx hb d_Law_law_318 (by decide) ?_
    refine lv_iadd hx hb d_Law_law_319 ?_
    refine g_nI hf (fun x107 hf => ?_)
    have ⟨h108, hf⟩ := gd_e hf
    refine va_sld hx hb hX hbl hbA hS h108 d_Law_law_320 ?_
    refine g_nI hf (fun x109 hf => ?_)
    refine lv_aload_n hx hb d_Law_law_321 rfl (lv_at hl 0 rfl) ?_
    refine lv_iload_n hx hb d_Law_law_322 rfl (lv_at hl 3 rfl) ?_
    refine lv_iconst (v := 2) hx hb d_Law_law_323 (by decide) ?_
    refine lv_iadd hx hb d_Law_law_324 ?_
    refine g_nI hf (fun x110 hf => ?_)
    have ⟨h111, hf⟩ := gd_e hf
    refine va_sld hx hb hX hbl hbA hS h111 d_Law_law_325 ?_
    refine g_nI hf (fun x112 hf => ?_)
    have ⟨h116, hf⟩ := gd_e hf
    have ⟨x113, w114, h115, hf⟩ := kl_e hf
    refine g_ki (g_rV (As := [.int x109, .int x112]) (rest := [.int x103]) hx hb hml hown hts hK hR hS (c_M_till l D cA oc B N a2 x109 x112 w104 h115) I_M_till m_1220 m_1222 (gRecv hK hR (ci := 12) rfl h116) rfl rfl (Nat.le_of_ble_eq_true rfl) hl.1 ⟨Nat.le_of_ble_eq_true rfl, Nat.le_of_ble_eq_true rfl⟩ ⟨h102.1, h102.2⟩ d_Law_law_326) hS (fun H locs hR hS => ?_)
    refine lv_icmp_eq (tgt := 1323) hx hb d_Law_law_329 (by decide) (fun hc => ?_) (fun hc => ?_)
    · have hf := cd_t hc hf
      refine g_iinc (lv' := fun x117 => [(3, .int x117), (0, .ref b), (1, .ref (B + a1)), (2, .ref (B + a2))]) hf hx hb d_Law_law_1323 hl (k := 3) rfl (by decide) (by decide) (fun _ => rfl) (fun x117 ls hf hl => ?_)
      refine lv_goto (tgt := 18) hx hb d_Law_law_1326 (by decide) ?_
      exact ih18 a1 a2 x117 kc ks w114 _ _ _ hf (lv_sub hl [1, 2, 3, 0] rfl) hR hS
    have hf := cd_f hc hf
    refine lv_iconst (v := 0) hx hb d_Law_law_332 (by decide) ?_
    cases hf
  have hf := cd_f hc95 hf
  by_cases hc118 : x18 = 4
  · refine lv_tableIn (off := 301) (tgt := 334) hx hb d_Law_law_33 (by rw [hc118]; decide) (by rw [hc118]; decide) (by rw [hc118]; rfl) (by decide) ?_
    have hf := cd_t hc118 hf
    refine lv_aload_n hx hb d_Law_law_334 rfl (lv_at hl 1 rfl) ?_
    refine lv_aload_n hx hb d_Law_law_335 rfl (lv_at hl 0 rfl) ?_
    refine lv_iload_n hx hb d_Law_law_336 rfl (lv_at hl 3 rfl) ?_
    refine lv_iconst (v := 1) hx hb d_Law_law_337 (by decide) ?_
    refine lv_iadd hx hb d_Law_law_338 ?_
    refine g_nI hf (fun x119 hf => ?_)
    have ⟨h120, hf⟩ := gd_e hf
    refine va_sld hx hb hX hbl hbA hS h120 d_Law_law_339 ?_
    refine g_nI hf (fun x121 hf => ?_)
    refine lv_aload_n hx hb d_Law_law_340 rfl (lv_at hl 0 rfl) ?_
    refine lv_iload_n hx hb d_Law_law_341 rfl (lv_at hl 3 rfl) ?_
    refine lv_iconst (v := 2) hx hb d_Law_law_342 (by decide) ?_
    refine lv_iadd hx hb d_Law_law_343 ?_
    refine g_nI hf (fun x122 hf => ?_)
    have ⟨h123, hf⟩ := gd_e hf
    refine va_sld hx hb hX hbl hbA hS h123 d_Law_law_344 ?_
    refine g_nI hf (fun x124 hf => ?_)
    refine lv_aload_n hx hb d_Law_law_345 rfl (lv_at hl 0 rfl) ?_
    refine lv_iload_n hx hb d_Law_law_346 rfl (lv_at hl 3 rfl) ?_
    refine lv_iconst (v := 3) hx hb d_Law_law_347 (by decide) ?_
    refine lv_iadd hx hb d_Law_law_348 ?_
    refine g_nI hf (fun x125 hf => ?_)
    have ⟨h126, hf⟩ := gd_e hf
    refine va_sld hx hb hX hbl hbA hS h126 d_Law_law_349 ?_
    refine g_nI hf (fun x127 hf => ?_)
    have ⟨h128, hf⟩ := gd_e hf
    have ⟨h132, hf⟩ := gd_e hf
    have ⟨x129, w130, h131, hf⟩ := kl_e hf
    refine g_ki (g_rV (As := [.int x121, .int x124, .int x127]) (rest := []) hx hb hml hown hts hK hR hS (c_X_row l D cA oc B N a1 x121 x124 x127 w h131) I_X_row m_422 m_424 (gRecv hK hR (ci := 11) rfl h132) rfl rfl (Nat.le_of_ble_eq_true rfl) hl.1 ⟨Nat.le_of_ble_eq_true rfl, Nat.le_of_ble_eq_true rfl⟩ ⟨h128.1, h128.2⟩ d_Law_law_350) hS (fun H locs hR hS => ?_)
    refine lv_aload_n hx hb d_Law_law_353 rfl (lv_at hl 2 rfl) ?_
    refine lv_aload_n hx hb d_Law_law_354 rfl (lv_at hl 0 rfl) ?_
    refine lv_iload_n hx hb d_Law_law_355 rfl (lv_at hl 3 rfl) ?_
    refine lv_iconst (v := 1) hx hb d_Law_law_356 (by decide) ?_
    refine lv_iadd hx hb d_Law_law_357 ?_
    refine g_nI hf (fun x133 hf => ?_)
    have ⟨h134, hf⟩ := gd_e hf
    refine va_sld hx hb hX hbl hbA hS h134 d_Law_law_358 ?_
    refine g_nI hf (fun x135 hf => ?_)
    refine lv_aload_n hx hb d_Law_law_359 rfl (lv_at hl 0 rfl) ?_
    refine lv_iload_n hx hb d_Law_law_360 rfl (lv_at hl 3 rfl) ?_
    refine lv_iconst (v := 2) hx hb d_Law_law_361 (by decide) ?_
    refine lv_iadd hx hb d_Law_law_362 ?_
    refine g_nI hf (fun x136 hf => ?_)
    have ⟨h137, hf⟩ := gd_e hf
    refine va_sld hx hb hX hbl hbA hS h137 d_Law_law_363 ?_
    refine g_nI hf (fun x138 hf => ?_)
    refine lv_aload_n hx hb d_Law_law_364 rfl (lv_at hl 0 rfl) ?_
    refine lv_iload_n hx hb d_Law_law_365 rfl (lv_at hl 3 rfl) ?_
    refine lv_iconst (v := 3) hx hb d_Law_law_366 (by decide) ?_
    refine lv_iadd hx hb d_Law_law_367 ?_
    refine g_nI hf (fun x139 hf => ?_)
    have ⟨h140, hf⟩ := gd_e hf
    refine va_sld hx hb hX hbl hbA hS h140 d_Law_law_368 ?_
    refine g_nI hf (fun x141 hf => ?_)
    have ⟨h145, hf⟩ := gd_e hf
    have ⟨x142, w143, h144, hf⟩ := kl_e hf
    refine g_ki (g_rV (As := [.int x135, .int x138, .int x141]) (rest := [.int x129]) hx hb hml hown hts hK hR hS (c_M_row l D cA oc B N a2 x135 x138 x141 w130 h144) I_M_row m_1224 m_1226 (gRecv hK hR (ci := 12) rfl h145) rfl rfl (Nat.le_of_ble_eq_true rfl) hl.1 ⟨Nat.le_of_ble_eq_true rfl, Nat.le_of_ble_eq_true rfl⟩ ⟨h128.1, h128.2⟩ d_Law_law_369) hS (fun H locs hR hS => ?_)
    refine lv_icmp_eq (tgt := 1323) hx hb d_Law_law_372 (by decide) (fun hc => ?_) (fun hc => ?_)
    · have hf := cd_t hc hf
      refine g_iinc (lv' := fun x146 => [(3, .int x146), (0, .ref b), (1, .ref (B + a1)), (2, .ref (B + a2))]) hf hx hb d_Law_law_1323 hl (k := 3) rfl (by decide) (by decide) (fun _ => rfl) (fun x146 ls hf hl => ?_)
      refine lv_goto (tgt := 18) hx hb d_Law_law_1326 (by decide) ?_
      exact ih18 a1 a2 x146 kc ks w143 _ _ _ hf (lv_sub hl [1, 2, 3, 0] rfl) hR hS
    have hf := cd_f hc hf
    refine lv_iconst (v := 0) hx hb d_Law_law_375 (by decide) ?_
    cases hf
  have hf := cd_f hc118 hf
  by_cases hc147 : x18 = 5
  · refine lv_tableIn (off := 344) (tgt := 377) hx hb d_Law_law_33 (by rw [hc147]; decide) (by rw [hc147]; decide) (by rw [hc147]; rfl) (by decide) ?_
    have hf := cd_t hc147 hf
    refine lv_aload_n hx hb d_Law_law_377 rfl (lv_at hl 1 rfl) ?_
    refine lv_aload_n hx hb d_Law_law_378 rfl (lv_at hl 0 rfl) ?_
    refine lv_iload_n hx hb d_Law_law_379 rfl (lv_at hl 3 rfl) ?_
    refine lv_iconst (v := 1) hx hb d_Law_law_380 (by decide) ?_
    refine lv_iadd hx hb d_Law_law_381 ?_
    refine g_nI hf (fun x148 hf => ?_)
    have ⟨h149, hf⟩ := gd_e hf
    refine va_sld hx hb hX hbl hbA hS h149 d_Law_law_382 ?_
    refine g_nI hf (fun x150 hf => ?_)
    have ⟨h151, hf⟩ := gd_e hf
    have ⟨h155, hf⟩ := gd_e hf
    have ⟨x152, w153, h154, hf⟩ := kl_e hf
    refine g_ki (g_rV (As := [.int x150]) (rest := []) hx hb hml hown hts hK hR hS (c_X_feed l D cA oc B N a1 x150 w h154) I_X_feed m_426 m_428 (gRecv hK hR (ci := 11) rfl h155) rfl rfl (Nat.le_of_ble_eq_true rfl) hl.1 ⟨Nat.le_of_ble_eq_true rfl, Nat.le_of_ble_eq_true rfl⟩ ⟨h151.1, h151.2⟩ d_Law_law_383) hS (fun H locs hR hS => ?_)
    refine lv_aload_n hx hb d_Law_law_386 rfl (lv_at hl 2 rfl) ?_
    refine lv_aload_n hx hb d_Law_law_387 rfl (lv_at hl 0 rfl) ?_
    refine lv_iload_n hx hb d_Law_law_388 rfl (lv_at hl 3 rfl) ?_
    refine lv_iconst (v := 1) hx hb d_Law_law_389 (by decide) ?_
    refine lv_iadd hx hb d_Law_law_390 ?_
    refine g_nI hf (fun x156 hf => ?_)
    have ⟨h157, hf⟩ := gd_e hf
    refine va_sld hx hb hX hbl hbA hS h157 d_Law_law_391 ?_
    refine g_nI hf (fun x158 hf => ?_)
    have ⟨h162, hf⟩ := gd_e hf
    have ⟨x159, w160, h161, hf⟩ := kl_e hf
    refine g_ki (g_rV (As := [.int x158]) (rest := [.int x152]) hx hb hml hown hts hK hR hS (c_M_feed l D cA oc B N a2 x158 w153 h161) I_M_feed m_1228 m_1230 (gRecv hK hR (ci := 12) rfl h162) rfl rfl (Nat.le_of_ble_eq_true rfl) hl.1 ⟨Nat.le_of_ble_eq_true rfl, Nat.le_of_ble_eq_true rfl⟩ ⟨h151.1, h151.2⟩ d_Law_law_392) hS (fun H locs hR hS => ?_)
    refine lv_icmp_eq (tgt := 1323) hx hb d_Law_law_395 (by decide) (fun hc => ?_) (fun hc => ?_)
    · have hf := cd_t hc hf
      refine g_iinc (lv' := fun x163 => [(3, .int x163), (0, .ref b), (1, .ref (B + a1)), (2, .ref (B + a2))]) hf hx hb d_Law_law_1323 hl (k := 3) rfl (by decide) (by decide) (fun _ => rfl) (fun x163 ls hf hl => ?_)
      refine lv_goto (tgt := 18) hx hb d_Law_law_1326 (by decide) ?_
      exact ih18 a1 a2 x163 kc ks w160 _ _ _ hf (lv_sub hl [1, 2, 3, 0] rfl) hR hS
    have hf := cd_f hc hf
    refine lv_iconst (v := 0) hx hb d_Law_law_398 (by decide) ?_
    cases hf
  have hf := cd_f hc147 hf
  by_cases hc164 : x18 = 6
  · refine lv_tableIn (off := 367) (tgt := 400) hx hb d_Law_law_33 (by rw [hc164]; decide) (by rw [hc164]; decide) (by rw [hc164]; rfl) (by decide) ?_
    have hf := cd_t hc164 hf
    refine lv_aload_n hx hb d_Law_law_400 rfl (lv_at hl 1 rfl) ?_
    have ⟨h165, hf⟩ := gd_e hf
    have ⟨h169, hf⟩ := gd_e hf
    have ⟨x166, w167, h168, hf⟩ := kl_e hf
    refine g_ki (g_rV (As := []) (rest := []) hx hb hml hown hts hK hR hS (c_X_town l D cA oc B N a1 w h168) I_X_town m_430 m_432 (gRecv hK hR (ci := 11) rfl h169) rfl rfl (Nat.le_of_ble_eq_true rfl) hl.1 ⟨Nat.le_of_ble_eq_true rfl, Nat.le_of_ble_eq_true rfl⟩ ⟨h165.1, h165.2⟩ d_Law_law_401) hS (fun H locs hR hS => ?_)
    refine lv_aload_n hx hb d_Law_law_404 rfl (lv_at hl 2 rfl) ?_
    have ⟨h173, hf⟩ := gd_e hf
    have ⟨x170, w171, h172, hf⟩ := kl_e hf
    refine g_ki (g_rV (As := []) (rest := [.int x166]) hx hb hml hown hts hK hR hS (c_M_town l D cA oc B N a2 w167 h172) I_M_town m_1232 m_1234 (gRecv hK hR (ci := 12) rfl h173) rfl rfl (Nat.le_of_ble_eq_true rfl) hl.1 ⟨Nat.le_of_ble_eq_true rfl, Nat.le_of_ble_eq_true rfl⟩ ⟨h165.1, h165.2⟩ d_Law_law_405) hS (fun H locs hR hS => ?_)
    refine lv_icmp_eq (tgt := 1323) hx hb d_Law_law_408 (by decide) (fun hc => ?_) (fun hc => ?_)
    · have hf := cd_t hc hf
      refine g_iinc (lv' := fun x174 => [(3, .int x174), (0, .ref b), (1, .ref (B + a1)), (2, .ref (B + a2))]) hf hx hb d_Law_law_1323 hl (k := 3) rfl (by decide) (by decide) (fun _ => rfl) (fun x174 ls hf hl => ?_)
      refine lv_goto (tgt := 18) hx hb d_Law_law_1326 (by decide) ?_
      exact ih18 a1 a2 x174 kc ks w171 _ _ _ hf (lv_sub hl [1, 2, 3, 0] rfl) hR hS
    have hf := cd_f hc hf
    refine lv_iconst (v := 0) hx hb d_Law_law_411 (by decide) ?_
    cases hf
  have hf := cd_f hc164 hf
  by_cases hc175 : x18 = 7
  · refine lv_tableIn (off := 380) (tgt := 413) hx hb d_Law_law_33 (by rw [hc175]; decide) (by rw [hc175]; decide) (by rw [hc175]; rfl) (by decide) ?_
    have hf := cd_t hc175 hf
    refine lv_aload_n hx hb d_Law_law_413 rfl (lv_at hl 1 rfl) ?_
    refine lv_aload_n hx hb d_Law_law_414 rfl (lv_at hl 0 rfl) ?_
    refine lv_iload_n hx hb d_Law_law_415 rfl (lv_at hl 3 rfl) ?_
    refine lv_iconst (v := 1) hx hb d_Law_law_416 (by decide) ?_
    refine lv_iadd hx hb d_Law_law_417 ?_
    refine g_nI hf (fun x176 hf => ?_)
    have ⟨h177, hf⟩ := gd_e hf
    refine va_sld hx hb hX hbl hbA hS h177 d_Law_law_418 ?_
    refine g_nI hf (fun x178 hf => ?_)
    have ⟨h179, hf⟩ := gd_e hf
    have ⟨h183, hf⟩ := gd_e hf
    have ⟨x180, w181, h182, hf⟩ := kl_e hf
    refine g_ki (g_rV (As := [.int x178]) (rest := []) hx hb hml hown hts hK hR hS (c_X_told l D cA oc B N a1 x178 w h182) I_X_told m_607 m_609 (gRecv hK hR (ci := 11) rfl h183) rfl rfl (Nat.le_of_ble_eq_true rfl) hl.1 ⟨Nat.le_of_ble_eq_true rfl, Nat.le_of_ble_eq_true rfl⟩ ⟨h179.1, h179.2⟩ d_Law_law_419) hS (fun H locs hR hS => ?_)
    refine lv_aload_n hx hb d_Law_law_422 rfl (lv_at hl 2 rfl) ?_
    refine lv_aload_n hx hb d_Law_law_423 rfl (lv_at hl 0 rfl) ?_
    refine lv_iload_n hx hb d_Law_law_424 rfl (lv_at hl 3 rfl) ?_
    refine lv_iconst (v := 1) hx hb d_Law_law_425 (by decide) ?_
    refine lv_iadd hx hb d_Law_law_426 ?_
    refine g_nI hf (fun x184 hf => ?_)
    have ⟨h185, hf⟩ := gd_e hf
    refine va_sld hx hb hX hbl hbA hS h185 d_Law_law_427 ?_
    refine g_nI hf (fun x186 hf => ?_)
    have ⟨h190, hf⟩ := gd_e hf
    have ⟨x187, w188, h189, hf⟩ := kl_e hf
    refine g_ki (g_rV (As := [.int x186]) (rest := [.int x180]) hx hb hml hown hts hK hR hS (c_M_told l D cA oc B N a2 x186 w181 h189) I_M_told m_1332 m_1334 (gRecv hK hR (ci := 12) rfl h190) rfl rfl (Nat.le_of_ble_eq_true rfl) hl.1 ⟨Nat.le_of_ble_eq_true rfl, Nat.le_of_ble_eq_true rfl⟩ ⟨h179.1, h179.2⟩ d_Law_law_428) hS (fun H locs hR hS => ?_)
    refine lv_icmp_eq (tgt := 1323) hx hb d_Law_law_431 (by decide) (fun hc => ?_) (fun hc => ?_)
    · have hf := cd_t hc hf
      refine g_iinc (lv' := fun x191 => [(3, .int x191), (0, .ref b), (1, .ref (B + a1)), (2, .ref (B + a2))]) hf hx hb d_Law_law_1323 hl (k := 3) rfl (by decide) (by decide) (fun _ => rfl) (fun x191 ls hf hl => ?_)
      refine lv_goto (tgt := 18) hx hb d_Law_law_1326 (by decide) ?_
      exact ih18 a1 a2 x191 kc ks w188 _ _ _ hf (lv_sub hl [1, 2, 3, 0] rfl) hR hS
    have hf := cd_f hc hf
    refine lv_iconst (v := 0) hx hb d_Law_law_434 (by decide) ?_
    cases hf
  have hf := cd_f hc175 hf
  by_cases hc192 : x18 = 8
  · refine lv_tableIn (off := 403) (tgt := 436) hx hb d_Law_law_33 (by rw [hc192]; decide) (by rw [hc192]; decide) (by rw [hc192]; rfl) (by decide) ?_
    have hf := cd_t hc192 hf
    refine lv_aload_n hx hb d_Law_law_436 rfl (lv_at hl 1 rfl) ?_
    refine lv_aload_n hx hb d_Law_law_437 rfl (lv_at hl 0 rfl) ?_
    refine lv_iload_n hx hb d_Law_law_438 rfl (lv_at hl 3 rfl) ?_
    refine lv_iconst (v := 1) hx hb d_Law_law_439 (by decide) ?_
    refine lv_iadd hx hb d_Law_law_440 ?_
    refine g_nI hf (fun x193 hf => ?_)
    have ⟨h194, hf⟩ := gd_e hf
    refine va_sld hx hb hX hbl hbA hS h194 d_Law_law_441 ?_
    refine g_nI hf (fun x195 hf => ?_)
    refine lv_aload_n hx hb d_Law_law_442 rfl (lv_at hl 0 rfl) ?_
    refine lv_iload_n hx hb d_Law_law_443 rfl (lv_at hl 3 rfl) ?_
    refine lv_iconst (v := 2) hx hb d_Law_law_444 (by decide) ?_
    refine lv_iadd hx hb d_Law_law_445 ?_
    refine g_nI hf (fun x196 hf => ?_)
    have ⟨h197, hf⟩ := gd_e hf
    refine va_sld hx hb hX hbl hbA hS h197 d_Law_law_446 ?_
    refine g_nI hf (fun x198 hf => ?_)
    have ⟨h199, hf⟩ := gd_e hf
    have ⟨h203, hf⟩ := gd_e hf
    have ⟨x200, w201, h202, hf⟩ := kl_e hf
    refine g_ki (g_rV (As := [.int x195, .int x198]) (rest := []) hx hb hml hown hts hK hR hS (c_X_pay l D cA oc B N a1 x195 x198 w h202) I_X_pay m_611 m_613 (gRecv hK hR (ci := 11) rfl h203) rfl rfl (Nat.le_of_ble_eq_true rfl) hl.1 ⟨Nat.le_of_ble_eq_true rfl, Nat.le_of_ble_eq_true rfl⟩ ⟨h199.1, h199.2⟩ d_Law_law_447) hS (fun H locs hR hS => ?_)
    refine lv_aload_n hx hb d_Law_law_450 rfl (lv_at hl 2 rfl) ?_
    refine lv_aload_n hx hb d_Law_law_451 rfl (lv_at hl 0 rfl) ?_
    refine lv_iload_n hx hb d_Law_law_452 rfl (lv_at hl 3 rfl) ?_
    refine lv_iconst (v := 1) hx hb d_Law_law_453 (by decide) ?_
    refine lv_iadd hx hb d_Law_law_454 ?_
    refine g_nI hf (fun x204 hf => ?_)
    have ⟨h205, hf⟩ := gd_e hf
    refine va_sld hx hb hX hbl hbA hS h205 d_Law_law_455 ?_
    refine g_nI hf (fun x206 hf => ?_)
    refine lv_aload_n hx hb d_Law_law_456 rfl (lv_at hl 0 rfl) ?_
    refine lv_iload_n hx hb d_Law_law_457 rfl (lv_at hl 3 rfl) ?_
    refine lv_iconst (v := 2) hx hb d_Law_law_458 (by decide) ?_
    refine lv_iadd hx hb d_Law_law_459 ?_
    refine g_nI hf (fun x207 hf => ?_)
    have ⟨h208, hf⟩ := gd_e hf
    refine va_sld hx hb hX hbl hbA hS h208 d_Law_law_460 ?_
    refine g_nI hf (fun x209 hf => ?_)
    have ⟨h213, hf⟩ := gd_e hf
    have ⟨x210, w211, h212, hf⟩ := kl_e hf
    refine g_ki (g_rV (As := [.int x206, .int x209]) (rest := [.int x200]) hx hb hml hown hts hK hR hS (c_M_pay l D cA oc B N a2 x206 x209 w201 h212) I_M_pay m_1340 m_1342 (gRecv hK hR (ci := 12) rfl h213) rfl rfl (Nat.le_of_ble_eq_true rfl) hl.1 ⟨Nat.le_of_ble_eq_true rfl, Nat.le_of_ble_eq_true rfl⟩ ⟨h199.1, h199.2⟩ d_Law_law_461) hS (fun H locs hR hS => ?_)
    refine lv_icmp_eq (tgt := 1323) hx hb d_Law_law_464 (by decide) (fun hc => ?_) (fun hc => ?_)
    · have hf := cd_t hc hf
      refine g_iinc (lv' := fun x214 => [(3, .int x214), (0, .ref b), (1, .ref (B + a1)), (2, .ref (B + a2))]) hf hx hb d_Law_law_1323 hl (k := 3) rfl (by decide) (by decide) (fun _ => rfl) (fun x214 ls hf hl => ?_)
      refine lv_goto (tgt := 18) hx hb d_Law_law_1326 (by decide) ?_
      exact ih18 a1 a2 x214 kc ks w211 _ _ _ hf (lv_sub hl [1, 2, 3, 0] rfl) hR hS
    have hf := cd_f hc hf
    refine lv_iconst (v := 0) hx hb d_Law_law_467 (by decide) ?_
    cases hf
  have hf := cd_f hc192 hf
  by_cases hc215 : x18 = 9
  · refine lv_tableIn (off := 436) (tgt := 469) hx hb d_Law_law_33 (by rw [hc215]; decide) (by rw [hc215]; decide) (by rw [hc215]; rfl) (by decide) ?_
    have hf := cd_t hc215 hf
    refine lv_aload_n hx hb d_Law_law_469 rfl (lv_at hl 1 rfl) ?_
    refine lv_aload_n hx hb d_Law_law_470 rfl (lv_at hl 0 rfl) ?_
    refine lv_iload_n hx hb d_Law_law_471 rfl (lv_at hl 3 rfl) ?_
    refine lv_iconst (v := 1) hx hb d_Law_law_472 (by decide) ?_
    refine lv_iadd hx hb d_Law_law_473 ?_
    refine g_nI hf (fun x216 hf => ?_)
    have ⟨h217, hf⟩ := gd_e hf
    refine va_sld hx hb hX hbl hbA hS h217 d_Law_law_474 ?_
    refine g_nI hf (fun x218 hf => ?_)
    refine lv_aload_n hx hb d_Law_law_475 rfl (lv_at hl 0 rfl) ?_
    refine lv_iload_n hx hb d_Law_law_476 rfl (lv_at hl 3 rfl) ?_
    refine lv_iconst (v := 2) hx hb d_Law_law_477 (by decide) ?_
    refine lv_iadd hx hb d_Law_law_478 ?_
    refine g_nI hf (fun x219 hf => ?_)
    have ⟨h220, hf⟩ := gd_e hf
    refine va_sld hx hb hX hbl hbA hS h220 d_Law_law_479 ?_
    refine g_nI hf (fun x221 hf => ?_)
    refine lv_aload_n hx hb d_Law_law_480 rfl (lv_at hl 0 rfl) ?_
    refine lv_iload_n hx hb d_Law_law_481 rfl (lv_at hl 3 rfl) ?_
    refine lv_iconst (v := 3) hx hb d_Law_law_482 (by decide) ?_
    refine lv_iadd hx hb d_Law_law_483 ?_
    refine g_nI hf (fun x222 hf => ?_)
    have ⟨h223, hf⟩ := gd_e hf
    refine va_sld hx hb hX hbl hbA hS h223 d_Law_law_484 ?_
    refine g_nI hf (fun x224 hf => ?_)
    have ⟨h225, hf⟩ := gd_e hf
    have ⟨h229, hf⟩ := gd_e hf
    have ⟨x226, w227, h228, hf⟩ := kl_e hf
    refine g_ki (g_rV (As := [.int x218, .int x221, .int x224]) (rest := []) hx hb hml hown hts hK hR hS (c_X_would l D cA oc B N a1 x218 x221 x224 w h228) I_X_would m_719 m_721 (gRecv hK hR (ci := 11) rfl h229) rfl rfl (Nat.le_of_ble_eq_true rfl) hl.1 ⟨Nat.le_of_ble_eq_true rfl, Nat.le_of_ble_eq_true rfl⟩ ⟨h225.1, h225.2⟩ d_Law_law_485) hS (fun H locs hR hS => ?_)
    refine lv_aload_n hx hb d_Law_law_488 rfl (lv_at hl 2 rfl) ?_
    refine lv_aload_n hx hb d_Law_law_489 rfl (lv_at hl 0 rfl) ?_
    refine lv_iload_n hx hb d_Law_law_490 rfl (lv_at hl 3 rfl) ?_
    refine lv_iconst (v := 1) hx hb d_Law_law_491 (by decide) ?_
    refine lv_iadd hx hb d_Law_law_492 ?_
    refine g_nI hf (fun x230 hf => ?_)
    have ⟨h231, hf⟩ := gd_e hf
    refine va_sld hx hb hX hbl hbA hS h231 d_Law_law_493 ?_
    refine g_nI hf (fun x232 hf => ?_)
    refine lv_aload_n hx hb d_Law_law_494 rfl (lv_at hl 0 rfl) ?_
    refine lv_iload_n hx hb d_Law_law_495 rfl (lv_at hl 3 rfl) ?_
    refine lv_iconst (v := 2) hx hb d_Law_law_496 (by decide) ?_
    refine lv_iadd hx hb d_Law_law_497 ?_
    refine g_nI hf (fun x233 hf => ?_)
    have ⟨h234, hf⟩ := gd_e hf
    refine va_sld hx hb hX hbl hbA hS h234 d_Law_law_498 ?_
    refine g_nI hf (fun x235 hf => ?_)
    refine lv_aload_n hx hb d_Law_law_499 rfl (lv_at hl 0 rfl) ?_
    refine lv_iload_n hx hb d_Law_law_500 rfl (lv_at hl 3 rfl) ?_
    refine lv_iconst (v := 3) hx hb d_Law_law_501 (by decide) ?_
    refine lv_iadd hx hb d_Law_law_502 ?_
    refine g_nI hf (fun x236 hf => ?_)
    have ⟨h237, hf⟩ := gd_e hf
    refine va_sld hx hb hX hbl hbA hS h237 d_Law_law_503 ?_
    refine g_nI hf (fun x238 hf => ?_)
    have ⟨h242, hf⟩ := gd_e hf
    have ⟨x239, w240, h241, hf⟩ := kl_e hf
    refine g_ki (g_rV (As := [.int x232, .int x235, .int x238]) (rest := [.int x226]) hx hb hml hown hts hK hR hS (c_M_would l D cA oc B N a2 x232 x235 x238 w227 h241) I_M_would m_1392 m_1394 (gRecv hK hR (ci := 12) rfl h242) rfl rfl (Nat.le_of_ble_eq_true rfl) hl.1 ⟨Nat.le_of_ble_eq_true rfl, Nat.le_of_ble_eq_true rfl⟩ ⟨h225.1, h225.2⟩ d_Law_law_504) hS (fun H locs hR hS => ?_)
    refine lv_icmp_eq (tgt := 1323) hx hb d_Law_law_507 (by decide) (fun hc => ?_) (fun hc => ?_)
    · have hf := cd_t hc hf
      refine g_iinc (lv' := fun x243 => [(3, .int x243), (0, .ref b), (1, .ref (B + a1)), (2, .ref (B + a2))]) hf hx hb d_Law_law_1323 hl (k := 3) rfl (by decide) (by decide) (fun _ => rfl) (fun x243 ls hf hl => ?_)
      refine lv_goto (tgt := 18) hx hb d_Law_law_1326 (by decide) ?_
      exact ih18 a1 a2 x243 kc ks w240 _ _ _ hf (lv_sub hl [1, 2, 3, 0] rfl) hR hS
    have hf := cd_f hc hf
    refine lv_iconst (v := 0) hx hb d_Law_law_510 (by decide) ?_
    cases hf
  have hf := cd_f hc215 hf
  by_cases hc244 : x18 = 10
  · refine lv_tableIn (off := 479) (tgt := 512) hx hb d_Law_law_33 (by rw [hc244]; decide) (by rw [hc244]; decide) (by rw [hc244]; rfl) (by decide) ?_
    have hf := cd_t hc244 hf
    refine lv_aload_n hx hb d_Law_law_512 rfl (lv_at hl 1 rfl) ?_
    refine lv_aload_n hx hb d_Law_law_513 rfl (lv_at hl 0 rfl) ?_
    refine lv_iload_n hx hb d_Law_law_514 rfl (lv_at hl 3 rfl) ?_
    refine lv_iconst (v := 1) hx hb d_Law_law_515 (by decide) ?_
    refine lv_iadd hx hb d_Law_law_516 ?_
    refine g_nI hf (fun x245 hf => ?_)
    have ⟨h246, hf⟩ := gd_e hf
    refine va_sld hx hb hX hbl hbA hS h246 d_Law_law_517 ?_
    refine g_nI hf (fun x247 hf => ?_)
    refine lv_aload_n hx hb d_Law_law_518 rfl (lv_at hl 0 rfl) ?_
    refine lv_iload_n hx hb d_Law_law_519 rfl (lv_at hl 3 rfl) ?_
    refine lv_iconst (v := 2) hx hb d_Law_law_520 (by decide) ?_
    refine lv_iadd hx hb d_Law_law_521 ?_
    refine g_nI hf (fun x248 hf => ?_)
    have ⟨h249, hf⟩ := gd_e hf
    refine va_sld hx hb hX hbl hbA hS h249 d_Law_law_522 ?_
    refine g_nI hf (fun x250 hf => ?_)
    refine lv_aload_n hx hb d_Law_law_523 rfl (lv_at hl 0 rfl) ?_
    refine lv_iload_n hx hb d_Law_law_524 rfl (lv_at hl 3 rfl) ?_
    refine lv_iconst (v := 3) hx hb d_Law_law_525 (by decide) ?_
    refine lv_iadd hx hb d_Law_law_526 ?_
    refine g_nI hf (fun x251 hf => ?_)
    have ⟨h252, hf⟩ := gd_e hf
    refine va_sld hx hb hX hbl hbA hS h252 d_Law_law_527 ?_
    refine g_nI hf (fun x253 hf => ?_)
    have ⟨h254, hf⟩ := gd_e hf
    have ⟨h258, hf⟩ := gd_e hf
    have ⟨x255, w256, h257, hf⟩ := kl_e hf
    refine g_ki (g_rV (As := [.int x247, .int x250, .int x253]) (rest := []) hx hb hml hown hts hK hR hS (c_X_least l D cA oc B N a1 x247 x250 x253 w h257) I_X_least m_729 m_731 (gRecv hK hR (ci := 11) rfl h258) rfl rfl (Nat.le_of_ble_eq_true rfl) hl.1 ⟨Nat.le_of_ble_eq_true rfl, Nat.le_of_ble_eq_true rfl⟩ ⟨h254.1, h254.2⟩ d_Law_law_528) hS (fun H locs hR hS => ?_)
    refine lv_aload_n hx hb d_Law_law_531 rfl (lv_at hl 2 rfl) ?_
    refine lv_aload_n hx hb d_Law_law_532 rfl (lv_at hl 0 rfl) ?_
    refine lv_iload_n hx hb d_Law_law_533 rfl (lv_at hl 3 rfl) ?_
    refine lv_iconst (v := 1) hx hb d_Law_law_534 (by decide) ?_
    refine lv_iadd hx hb d_Law_law_535 ?_
    refine g_nI hf (fun x259 hf => ?_)
    have ⟨h260, hf⟩ := gd_e hf
    refine va_sld hx hb hX hbl hbA hS h260 d_Law_law_536 ?_
    refine g_nI hf (fun x261 hf => ?_)
    refine lv_aload_n hx hb d_Law_law_537 rfl (lv_at hl 0 rfl) ?_
    refine lv_iload_n hx hb d_Law_law_538 rfl (lv_at hl 3 rfl) ?_
    refine lv_iconst (v := 2) hx hb d_Law_law_539 (by decide) ?_
    refine lv_iadd hx hb d_Law_law_540 ?_
    refine g_nI hf (fun x262 hf => ?_)
    have ⟨h263, hf⟩ := gd_e hf
    refine va_sld hx hb hX hbl hbA hS h263 d_Law_law_541 ?_
    refine g_nI hf (fun x264 hf => ?_)
    refine lv_aload_n hx hb d_Law_law_542 rfl (lv_at hl 0 rfl) ?_
    refine lv_iload_n hx hb d_Law_law_543 rfl (lv_at hl 3 rfl) ?_
    refine lv_iconst (v := 3) hx hb d_Law_law_544 (by decide) ?_
    refine lv_iadd hx hb d_Law_law_545 ?_
    refine g_nI hf (fun x265 hf => ?_)
    have ⟨h266, hf⟩ := gd_e hf
    refine va_sld hx hb hX hbl hbA hS h266 d_Law_law_546 ?_
    refine g_nI hf (fun x267 hf => ?_)
    have ⟨h271, hf⟩ := gd_e hf
    have ⟨x268, w269, h270, hf⟩ := kl_e hf
    refine g_ki (g_rV (As := [.int x261, .int x264, .int x267]) (rest := [.int x255]) hx hb hml hown hts hK hR hS (c_M_least l D cA oc B N a2 x261 x264 x267 w256 h270) I_M_least m_1408 m_1410 (gRecv hK hR (ci := 12) rfl h271) rfl rfl (Nat.le_of_ble_eq_true rfl) hl.1 ⟨Nat.le_of_ble_eq_true rfl, Nat.le_of_ble_eq_true rfl⟩ ⟨h254.1, h254.2⟩ d_Law_law_547) hS (fun H locs hR hS => ?_)
    refine lv_icmp_eq (tgt := 1323) hx hb d_Law_law_550 (by decide) (fun hc => ?_) (fun hc => ?_)
    · have hf := cd_t hc hf
      refine g_iinc (lv' := fun x272 => [(3, .int x272), (0, .ref b), (1, .ref (B + a1)), (2, .ref (B + a2))]) hf hx hb d_Law_law_1323 hl (k := 3) rfl (by decide) (by decide) (fun _ => rfl) (fun x272 ls hf hl => ?_)
      refine lv_goto (tgt := 18) hx hb d_Law_law_1326 (by decide) ?_
      exact ih18 a1 a2 x272 kc ks w269 _ _ _ hf (lv_sub hl [1, 2, 3, 0] rfl) hR hS
    have hf := cd_f hc hf
    refine lv_iconst (v := 0) hx hb d_Law_law_553 (by decide) ?_
    cases hf
  have hf := cd_f hc244 hf
  by_cases hc273 : x18 = 11
  · refine lv_tableIn (off := 522) (tgt := 555) hx hb d_Law_law_33 (by rw [hc273]; decide) (by rw [hc273]; decide) (by rw [hc273]; rfl) (by decide) ?_
    have hf := cd_t hc273 hf
    refine lv_aload_n hx hb d_Law_law_555 rfl (lv_at hl 1 rfl) ?_
    refine lv_aload_n hx hb d_Law_law_556 rfl (lv_at hl 0 rfl) ?_
    refine lv_iload_n hx hb d_Law_law_557 rfl (lv_at hl 3 rfl) ?_
    refine lv_iconst (v := 1) hx hb d_Law_law_558 (by decide) ?_
    refine lv_iadd hx hb d_Law_law_559 ?_
    refine g_nI hf (fun x274 hf => ?_)
    have ⟨h275, hf⟩ := gd_e hf
    refine va_sld hx hb hX hbl hbA hS h275 d_Law_law_560 ?_
    refine g_nI hf (fun x276 hf => ?_)
    have ⟨h277, hf⟩ := gd_e hf
    have ⟨h281, hf⟩ := gd_e hf
    have ⟨x278, w279, h280, hf⟩ := kl_e hf
    refine g_ki (g_rV (As := [.int x276]) (rest := []) hx hb hml hown hts hK hR hS (c_X_exactly l D cA oc B N a1 x276 w h280) I_X_exactly m_740 m_742 (gRecv hK hR (ci := 11) rfl h281) rfl rfl (Nat.le_of_ble_eq_true rfl) hl.1 ⟨Nat.le_of_ble_eq_true rfl, Nat.le_of_ble_eq_true rfl⟩ ⟨h277.1, h277.2⟩ d_Law_law_561) hS (fun H locs hR hS => ?_)
    refine lv_aload_n hx hb d_Law_law_564 rfl (lv_at hl 2 rfl) ?_
    refine lv_aload_n hx hb d_Law_law_565 rfl (lv_at hl 0 rfl) ?_
    refine lv_iload_n hx hb d_Law_law_566 rfl (lv_at hl 3 rfl) ?_
    refine lv_iconst (v := 1) hx hb d_Law_law_567 (by decide) ?_
    refine lv_iadd hx hb d_Law_law_568 ?_
    refine g_nI hf (fun x282 hf => ?_)
    have ⟨h283, hf⟩ := gd_e hf
    refine va_sld hx hb hX hbl hbA hS h283 d_Law_law_569 ?_
    refine g_nI hf (fun x284 hf => ?_)
    have ⟨h288, hf⟩ := gd_e hf
    have ⟨x285, w286, h287, hf⟩ := kl_e hf
    refine g_ki (g_rV (As := [.int x284]) (rest := [.int x278]) hx hb hml hown hts hK hR hS (c_M_exactly l D cA oc B N a2 x284 w279 h287) I_M_exactly m_1416 m_1418 (gRecv hK hR (ci := 12) rfl h288) rfl rfl (Nat.le_of_ble_eq_true rfl) hl.1 ⟨Nat.le_of_ble_eq_true rfl, Nat.le_of_ble_eq_true rfl⟩ ⟨h277.1, h277.2⟩ d_Law_law_570) hS (fun H locs hR hS => ?_)
    refine lv_icmp_eq (tgt := 1323) hx hb d_Law_law_573 (by decide) (fun hc => ?_) (fun hc => ?_)
    · have hf := cd_t hc hf
      refine g_iinc (lv' := fun x289 => [(3, .int x289), (0, .ref b), (1, .ref (B + a1)), (2, .ref (B + a2))]) hf hx hb d_Law_law_1323 hl (k := 3) rfl (by decide) (by decide) (fun _ => rfl) (fun x289 ls hf hl => ?_)
      refine lv_goto (tgt := 18) hx hb d_Law_law_1326 (by decide) ?_
      exact ih18 a1 a2 x289 kc ks w286 _ _ _ hf (lv_sub hl [1, 2, 3, 0] rfl) hR hS
    have hf := cd_f hc hf
    refine lv_iconst (v := 0) hx hb d_Law_law_576 (by decide) ?_
    cases hf
  have hf := cd_f hc273 hf
  by_cases hc290 : x18 = 12
  · refine lv_tableIn (off := 545) (tgt := 578) hx hb d_Law_law_33 (by rw [hc290]; decide) (by rw [hc290]; decide) (by rw [hc290]; rfl) (by decide) ?_
    have hf := cd_t hc290 hf
    refine lv_aload_n hx hb d_Law_law_578 rfl (lv_at hl 1 rfl) ?_
    refine lv_aload_n hx hb d_Law_law_579 rfl (lv_at hl 0 rfl) ?_
    refine lv_iload_n hx hb d_Law_law_580 rfl (lv_at hl 3 rfl) ?_
    refine lv_iconst (v := 1) hx hb d_Law_law_581 (by decide) ?_
    refine lv_iadd hx hb d_Law_law_582 ?_
    refine g_nI hf (fun x291 hf => ?_)
    have ⟨h292, hf⟩ := gd_e hf
    refine va_sld hx hb hX hbl hbA hS h292 d_Law_law_583 ?_
    refine g_nI hf (fun x293 hf => ?_)
    have ⟨h294, hf⟩ := gd_e hf
    have ⟨h298, hf⟩ := gd_e hf
    have ⟨x295, w296, h297, hf⟩ := kl_e hf
    refine g_ki (g_rV (As := [.int x293]) (rest := []) hx hb hml hown hts hK hR hS (c_X_price l D cA oc B N a1 x293 w h297) I_X_price m_754 m_756 (gRecv hK hR (ci := 11) rfl h298) rfl rfl (Nat.le_of_ble_eq_true rfl) hl.1 ⟨Nat.le_of_ble_eq_true rfl, Nat.le_of_ble_eq_true rfl⟩ ⟨h294.1, h294.2⟩ d_Law_law_584) hS (fun H locs hR hS => ?_)
    refine lv_aload_n hx hb d_Law_law_587 rfl (lv_at hl 2 rfl) ?_
    refine lv_aload_n hx hb d_Law_law_588 rfl (lv_at hl 0 rfl) ?_
    refine lv_iload_n hx hb d_Law_law_589 rfl (lv_at hl 3 rfl) ?_
    refine lv_iconst (v := 1) hx hb d_Law_law_590 (by decide) ?_
    refine lv_iadd hx hb d_Law_law_591 ?_
    refine g_nI hf (fun x299 hf => ?_)
    have ⟨h300, hf⟩ := gd_e hf
    refine va_sld hx hb hX hbl hbA hS h300 d_Law_law_592 ?_
    refine g_nI hf (fun x301 hf => ?_)
    have ⟨h305, hf⟩ := gd_e hf
    have ⟨x302, w303, h304, hf⟩ := kl_e hf
    refine g_ki (g_rV (As := [.int x301]) (rest := [.int x295]) hx hb hml hown hts hK hR hS (c_M_price l D cA oc B N a2 x301 w296 h304) I_M_price m_1420 m_1422 (gRecv hK hR (ci := 12) rfl h305) rfl rfl (Nat.le_of_ble_eq_true rfl) hl.1 ⟨Nat.le_of_ble_eq_true rfl, Nat.le_of_ble_eq_true rfl⟩ ⟨h294.1, h294.2⟩ d_Law_law_593) hS (fun H locs hR hS => ?_)
    refine lv_icmp_eq (tgt := 1323) hx hb d_Law_law_596 (by decide) (fun hc => ?_) (fun hc => ?_)
    · have hf := cd_t hc hf
      refine g_iinc (lv' := fun x306 => [(3, .int x306), (0, .ref b), (1, .ref (B + a1)), (2, .ref (B + a2))]) hf hx hb d_Law_law_1323 hl (k := 3) rfl (by decide) (by decide) (fun _ => rfl) (fun x306 ls hf hl => ?_)
      refine lv_goto (tgt := 18) hx hb d_Law_law_1326 (by decide) ?_
      exact ih18 a1 a2 x306 kc ks w303 _ _ _ hf (lv_sub hl [1, 2, 3, 0] rfl) hR hS
    have hf := cd_f hc hf
    refine lv_iconst (v := 0) hx hb d_Law_law_599 (by decide) ?_
    cases hf
  have hf := cd_f hc290 hf
  by_cases hc307 : x18 = 13
  · refine lv_tableIn (off := 568) (tgt := 601) hx hb d_Law_law_33 (by rw [hc307]; decide) (by rw [hc307]; decide) (by rw [hc307]; rfl) (by decide) ?_
    have hf := cd_t hc307 hf
    refine lv_aload_n hx hb d_Law_law_601 rfl (lv_at hl 1 rfl) ?_
    refine lv_aload_n hx hb d_Law_law_602 rfl (lv_at hl 0 rfl) ?_
    refine lv_iload_n hx hb d_Law_law_603 rfl (lv_at hl 3 rfl) ?_
    refine lv_iconst (v := 1) hx hb d_Law_law_604 (by decide) ?_
    refine lv_iadd hx hb d_Law_law_605 ?_
    refine g_nI hf (fun x308 hf => ?_)
    have ⟨h309, hf⟩ := gd_e hf
    refine va_sld hx hb hX hbl hbA hS h309 d_Law_law_606 ?_
    refine g_nI hf (fun x310 hf => ?_)
    refine lv_aload_n hx hb d_Law_law_607 rfl (lv_at hl 0 rfl) ?_
    refine lv_iload_n hx hb d_Law_law_608 rfl (lv_at hl 3 rfl) ?_
    refine lv_iconst (v := 2) hx hb d_Law_law_609 (by decide) ?_
    refine lv_iadd hx hb d_Law_law_610 ?_
    refine g_nI hf (fun x311 hf => ?_)
    have ⟨h312, hf⟩ := gd_e hf
    refine va_sld hx hb hX hbl hbA hS h312 d_Law_law_611 ?_
    refine g_nI hf (fun x313 hf => ?_)
    have ⟨h314, hf⟩ := gd_e hf
    have ⟨h318, hf⟩ := gd_e hf
    have ⟨x315, w316, h317, hf⟩ := kl_e hf
    refine g_ki (g_rV (As := [.int x310, .int x313]) (rest := []) hx hb hml hown hts hK hR hS (c_X_behind l D cA oc B N a1 x310 x313 w h317) I_X_behind m_758 m_760 (gRecv hK hR (ci := 11) rfl h318) rfl rfl (Nat.le_of_ble_eq_true rfl) hl.1 ⟨Nat.le_of_ble_eq_true rfl, Nat.le_of_ble_eq_true rfl⟩ ⟨h314.1, h314.2⟩ d_Law_law_612) hS (fun H locs hR hS => ?_)
    refine lv_aload_n hx hb d_Law_law_615 rfl (lv_at hl 2 rfl) ?_
    refine lv_aload_n hx hb d_Law_law_616 rfl (lv_at hl 0 rfl) ?_
    refine lv_iload_n hx hb d_Law_law_617 rfl (lv_at hl 3 rfl) ?_
    refine lv_iconst (v := 1) hx hb d_Law_law_618 (by decide) ?_
    refine lv_iadd hx hb d_Law_law_619 ?_
    refine g_nI hf (fun x319 hf => ?_)
    have ⟨h320, hf⟩ := gd_e hf
    refine va_sld hx hb hX hbl hbA hS h320 d_Law_law_620 ?_
    refine g_nI hf (fun x321 hf => ?_)
    refine lv_aload_n hx hb d_Law_law_621 rfl (lv_at hl 0 rfl) ?_
    refine lv_iload_n hx hb d_Law_law_622 rfl (lv_at hl 3 rfl) ?_
    refine lv_iconst (v := 2) hx hb d_Law_law_623 (by decide) ?_
    refine lv_iadd hx hb d_Law_law_624 ?_
    refine g_nI hf (fun x322 hf => ?_)
    have ⟨h323, hf⟩ := gd_e hf
    refine va_sld hx hb hX hbl hbA hS h323 d_Law_law_625 ?_
    refine g_nI hf (fun x324 hf => ?_)
    have ⟨h328, hf⟩ := gd_e hf
    have ⟨x325, w326, h327, hf⟩ := kl_e hf
    refine g_ki (g_rV (As := [.int x321, .int x324]) (rest := [.int x315]) hx hb hml hown hts hK hR hS (c_M_behind l D cA oc B N a2 x321 x324 w316 h327) I_M_behind m_1424 m_1426 (gRecv hK hR (ci := 12) rfl h328) rfl rfl (Nat.le_of_ble_eq_true rfl) hl.1 ⟨Nat.le_of_ble_eq_true rfl, Nat.le_of_ble_eq_true rfl⟩ ⟨h314.1, h314.2⟩ d_Law_law_626) hS (fun H locs hR hS => ?_)
    refine lv_icmp_eq (tgt := 1323) hx hb d_Law_law_629 (by decide) (fun hc => ?_) (fun hc => ?_)
    · have hf := cd_t hc hf
      refine g_iinc (lv' := fun x329 => [(3, .int x329), (0, .ref b), (1, .ref (B + a1)), (2, .ref (B + a2))]) hf hx hb d_Law_law_1323 hl (k := 3) rfl (by decide) (by decide) (fun _ => rfl) (fun x329 ls hf hl => ?_)
      refine lv_goto (tgt := 18) hx hb d_Law_law_1326 (by decide) ?_
      exact ih18 a1 a2 x329 kc ks w326 _ _ _ hf (lv_sub hl [1, 2, 3, 0] rfl) hR hS
    have hf := cd_f hc hf
    refine lv_iconst (v := 0) hx hb d_Law_law_632 (by decide) ?_
    cases hf
  have hf := cd_f hc307 hf
  by_cases hc330 : x18 = 14
  · refine lv_tableIn (off := 601) (tgt := 634) hx hb d_Law_law_33 (by rw [hc330]; decide) (by rw [hc330]; decide) (by rw [hc330]; rfl) (by decide) ?_
    have hf := cd_t hc330 hf
    refine lv_aload_n hx hb d_Law_law_634 rfl (lv_at hl 1 rfl) ?_
    have ⟨h331, hf⟩ := gd_e hf
    have ⟨h335, hf⟩ := gd_e hf
    have ⟨x332, w333, h334, hf⟩ := kl_e hf
    refine g_ki (g_rV (As := []) (rest := []) hx hb hml hown hts hK hR hS (c_X_who l D cA oc B N a1 w h334) I_X_who m_771 m_773 (gRecv hK hR (ci := 11) rfl h335) rfl rfl (Nat.le_of_ble_eq_true rfl) hl.1 ⟨Nat.le_of_ble_eq_true rfl, Nat.le_of_ble_eq_true rfl⟩ ⟨h331.1, h331.2⟩ d_Law_law_635) hS (fun H locs hR hS => ?_)
    refine lv_aload_n hx hb d_Law_law_638 rfl (lv_at hl 2 rfl) ?_
    have ⟨h339, hf⟩ := gd_e hf
    have ⟨x336, w337, h338, hf⟩ := kl_e hf
    refine g_ki (g_rV (As := []) (rest := [.int x332]) hx hb hml hown hts hK hR hS (c_M_who l D cA oc B N a2 w333 h338) I_M_who m_1432 m_1434 (gRecv hK hR (ci := 12) rfl h339) rfl rfl (Nat.le_of_ble_eq_true rfl) hl.1 ⟨Nat.le_of_ble_eq_true rfl, Nat.le_of_ble_eq_true rfl⟩ ⟨h331.1, h331.2⟩ d_Law_law_639) hS (fun H locs hR hS => ?_)
    refine lv_icmp_eq (tgt := 1323) hx hb d_Law_law_642 (by decide) (fun hc => ?_) (fun hc => ?_)
    · have hf := cd_t hc hf
      refine g_iinc (lv' := fun x340 => [(3, .int x340), (0, .ref b), (1, .ref (B + a1)), (2, .ref (B + a2))]) hf hx hb d_Law_law_1323 hl (k := 3) rfl (by decide) (by decide) (fun _ => rfl) (fun x340 ls hf hl => ?_)
      refine lv_goto (tgt := 18) hx hb d_Law_law_1326 (by decide) ?_
      exact ih18 a1 a2 x340 kc ks w337 _ _ _ hf (lv_sub hl [1, 2, 3, 0] rfl) hR hS
    have hf := cd_f hc hf
    refine lv_iconst (v := 0) hx hb d_Law_law_645 (by decide) ?_
    cases hf
  have hf := cd_f hc330 hf
  by_cases hc341 : x18 = 15
  · refine lv_tableIn (off := 614) (tgt := 647) hx hb d_Law_law_33 (by rw [hc341]; decide) (by rw [hc341]; decide) (by rw [hc341]; rfl) (by decide) ?_
    have hf := cd_t hc341 hf
    refine lv_aload_n hx hb d_Law_law_647 rfl (lv_at hl 1 rfl) ?_
    refine lv_aload_n hx hb d_Law_law_648 rfl (lv_at hl 0 rfl) ?_
    refine lv_iload_n hx hb d_Law_law_649 rfl (lv_at hl 3 rfl) ?_
    refine lv_iconst (v := 1) hx hb d_Law_law_650 (by decide) ?_
    refine lv_iadd hx hb d_Law_law_651 ?_
    refine g_nI hf (fun x342 hf => ?_)
    have ⟨h343, hf⟩ := gd_e hf
    refine va_sld hx hb hX hbl hbA hS h343 d_Law_law_652 ?_
    refine g_nI hf (fun x344 hf => ?_)
    have ⟨h345, hf⟩ := gd_e hf
    have ⟨h349, hf⟩ := gd_e hf
    have ⟨x346, w347, h348, hf⟩ := kl_e hf
    refine g_ki (g_rV (As := [.int x344]) (rest := []) hx hb hml hown hts hK hR hS (c_X_next l D cA oc B N a1 x344 w h348) I_X_next m_776 m_778 (gRecv hK hR (ci := 11) rfl h349) rfl rfl (Nat.le_of_ble_eq_true rfl) hl.1 ⟨Nat.le_of_ble_eq_true rfl, Nat.le_of_ble_eq_true rfl⟩ ⟨h345.1, h345.2⟩ d_Law_law_653) hS (fun H locs hR hS => ?_)
    refine lv_aload_n hx hb d_Law_law_656 rfl (lv_at hl 2 rfl) ?_
    refine lv_aload_n hx hb d_Law_law_657 rfl (lv_at hl 0 rfl) ?_
    refine lv_iload_n hx hb d_Law_law_658 rfl (lv_at hl 3 rfl) ?_
    refine lv_iconst (v := 1) hx hb d_Law_law_659 (by decide) ?_
    refine lv_iadd hx hb d_Law_law_660 ?_
    refine g_nI hf (fun x350 hf => ?_)
    have ⟨h351, hf⟩ := gd_e hf
    refine va_sld hx hb hX hbl hbA hS h351 d_Law_law_661 ?_
    refine g_nI hf (fun x352 hf => ?_)
    have ⟨h356, hf⟩ := gd_e hf
    have ⟨x353, w354, h355, hf⟩ := kl_e hf
    refine g_ki (g_rV (As := [.int x352]) (rest := [.int x346]) hx hb hml hown hts hK hR hS (c_M_next l D cA oc B N a2 x352 w347 h355) I_M_next m_1436 m_1438 (gRecv hK hR (ci := 12) rfl h356) rfl rfl (Nat.le_of_ble_eq_true rfl) hl.1 ⟨Nat.le_of_ble_eq_true rfl, Nat.le_of_ble_eq_true rfl⟩ ⟨h345.1, h345.2⟩ d_Law_law_662) hS (fun H locs hR hS => ?_)
    refine lv_icmp_eq (tgt := 1323) hx hb d_Law_law_665 (by decide) (fun hc => ?_) (fun hc => ?_)
    · have hf := cd_t hc hf
      refine g_iinc (lv' := fun x357 => [(3, .int x357), (0, .ref b), (1, .ref (B + a1)), (2, .ref (B + a2))]) hf hx hb d_Law_law_1323 hl (k := 3) rfl (by decide) (by decide) (fun _ => rfl) (fun x357 ls hf hl => ?_)
      refine lv_goto (tgt := 18) hx hb d_Law_law_1326 (by decide) ?_
      exact ih18 a1 a2 x357 kc ks w354 _ _ _ hf (lv_sub hl [1, 2, 3, 0] rfl) hR hS
    have hf := cd_f hc hf
    refine lv_iconst (v := 0) hx hb d_Law_law_668 (by decide) ?_
    cases hf
  have hf := cd_f hc341 hf
  by_cases hc358 : x18 = 16
  · refine lv_tableIn (off := 637) (tgt := 670) hx hb d_Law_law_33 (by rw [hc358]; decide) (by rw [hc358]; decide) (by rw [hc358]; rfl) (by decide) ?_
    have hf := cd_t hc358 hf
    refine lv_aload_n hx hb d_Law_law_670 rfl (lv_at hl 1 rfl) ?_
    refine lv_aload_n hx hb d_Law_law_671 rfl (lv_at hl 0 rfl) ?_
    refine lv_iload_n hx hb d_Law_law_672 rfl (lv_at hl 3 rfl) ?_
    refine lv_iconst (v := 1) hx hb d_Law_law_673 (by decide) ?_
    refine lv_iadd hx hb d_Law_law_674 ?_
    refine g_nI hf (fun x359 hf => ?_)
    have ⟨h360, hf⟩ := gd_e hf
    refine va_sld hx hb hX hbl hbA hS h360 d_Law_law_675 ?_
    refine g_nI hf (fun x361 hf => ?_)
    have ⟨h362, hf⟩ := gd_e hf
    have ⟨h366, hf⟩ := gd_e hf
    have ⟨x363, w364, h365, hf⟩ := kl_e hf
    refine g_ki (g_rV (As := [.int x361]) (rest := []) hx hb hml hown hts hK hR hS (c_X_shortOf l D cA oc B N a1 x361 w h365) I_X_shortOf m_780 m_782 (gRecv hK hR (ci := 11) rfl h366) rfl rfl (Nat.le_of_ble_eq_true rfl) hl.1 ⟨Nat.le_of_ble_eq_true rfl, Nat.le_of_ble_eq_true rfl⟩ ⟨h362.1, h362.2⟩ d_Law_law_676) hS (fun H locs hR hS => ?_)
    refine lv_aload_n hx hb d_Law_law_679 rfl (lv_at hl 2 rfl) ?_
    refine lv_aload_n hx hb d_Law_law_680 rfl (lv_at hl 0 rfl) ?_
    refine lv_iload_n hx hb d_Law_law_681 rfl (lv_at hl 3 rfl) ?_
    refine lv_iconst (v := 1) hx hb d_Law_law_682 (by decide) ?_
    refine lv_iadd hx hb d_Law_law_683 ?_
    refine g_nI hf (fun x367 hf => ?_)
    have ⟨h368, hf⟩ := gd_e hf
    refine va_sld hx hb hX hbl hbA hS h368 d_Law_law_684 ?_
    refine g_nI hf (fun x369 hf => ?_)
    have ⟨h373, hf⟩ := gd_e hf
    have ⟨x370, w371, h372, hf⟩ := kl_e hf
    refine g_ki (g_rV (As := [.int x369]) (rest := [.int x363]) hx hb hml hown hts hK hR hS (c_M_shortOf l D cA oc B N a2 x369 w364 h372) I_M_shortOf m_1440 m_1442 (gRecv hK hR (ci := 12) rfl h373) rfl rfl (Nat.le_of_ble_eq_true rfl) hl.1 ⟨Nat.le_of_ble_eq_true rfl, Nat.le_of_ble_eq_true rfl⟩ ⟨h362.1, h362.2⟩ d_Law_law_685) hS (fun H locs hR hS => ?_)
    refine lv_icmp_eq (tgt := 1323) hx hb d_Law_law_688 (by decide) (fun hc => ?_) (fun hc => ?_)
    · have hf := cd_t hc hf
      refine g_iinc (lv' := fun x374 => [(3, .int x374), (0, .ref b), (1, .ref (B + a1)), (2, .ref (B + a2))]) hf hx hb d_Law_law_1323 hl (k := 3) rfl (by decide) (by decide) (fun _ => rfl) (fun x374 ls hf hl => ?_)
      refine lv_goto (tgt := 18) hx hb d_Law_law_1326 (by decide) ?_
      exact ih18 a1 a2 x374 kc ks w371 _ _ _ hf (lv_sub hl [1, 2, 3, 0] rfl) hR hS
    have hf := cd_f hc hf
    refine lv_iconst (v := 0) hx hb d_Law_law_691 (by decide) ?_
    cases hf
  have hf := cd_f hc358 hf
  by_cases hc375 : x18 = 17
  · refine lv_tableIn (off := 660) (tgt := 693) hx hb d_Law_law_33 (by rw [hc375]; decide) (by rw [hc375]; decide) (by rw [hc375]; rfl) (by decide) ?_
    have hf := cd_t hc375 hf
    refine lv_aload_n hx hb d_Law_law_693 rfl (lv_at hl 1 rfl) ?_
    refine lv_aload_n hx hb d_Law_law_694 rfl (lv_at hl 0 rfl) ?_
    refine lv_iload_n hx hb d_Law_law_695 rfl (lv_at hl 3 rfl) ?_
    refine lv_iconst (v := 1) hx hb d_Law_law_696 (by decide) ?_
    refine lv_iadd hx hb d_Law_law_697 ?_
    refine g_nI hf (fun x376 hf => ?_)
    have ⟨h377, hf⟩ := gd_e hf
    refine va_sld hx hb hX hbl hbA hS h377 d_Law_law_698 ?_
    refine g_nI hf (fun x378 hf => ?_)
    refine lv_aload_n hx hb d_Law_law_699 rfl (lv_at hl 0 rfl) ?_
    refine lv_iload_n hx hb d_Law_law_700 rfl (lv_at hl 3 rfl) ?_
    refine lv_iconst (v := 2) hx hb d_Law_law_701 (by decide) ?_
    refine lv_iadd hx hb d_Law_law_702 ?_
    refine g_nI hf (fun x379 hf => ?_)
    have ⟨h380, hf⟩ := gd_e hf
    refine va_sld hx hb hX hbl hbA hS h380 d_Law_law_703 ?_
    refine g_nI hf (fun x381 hf => ?_)
    refine lv_aload_n hx hb d_Law_law_704 rfl (lv_at hl 0 rfl) ?_
    refine lv_iload_n hx hb d_Law_law_705 rfl (lv_at hl 3 rfl) ?_
    refine lv_iconst (v := 3) hx hb d_Law_law_706 (by decide) ?_
    refine lv_iadd hx hb d_Law_law_707 ?_
    refine g_nI hf (fun x382 hf => ?_)
    have ⟨h383, hf⟩ := gd_e hf
    refine va_sld hx hb hX hbl hbA hS h383 d_Law_law_708 ?_
    refine g_nI hf (fun x384 hf => ?_)
    have ⟨h385, hf⟩ := gd_e hf
    have ⟨h389, hf⟩ := gd_e hf
    have ⟨x386, w387, h388, hf⟩ := kl_e hf
    refine g_ki (g_rV (As := [.int x378, .int x381, .int x384]) (rest := []) hx hb hml hown hts hK hR hS (c_X_more l D cA oc B N a1 x378 x381 x384 w h388) I_X_more m_793 m_795 (gRecv hK hR (ci := 11) rfl h389) rfl rfl (Nat.le_of_ble_eq_true rfl) hl.1 ⟨Nat.le_of_ble_eq_true rfl, Nat.le_of_ble_eq_true rfl⟩ ⟨h385.1, h385.2⟩ d_Law_law_709) hS (fun H locs hR hS => ?_)
    refine lv_aload_n hx hb d_Law_law_712 rfl (lv_at hl 2 rfl) ?_
    refine lv_aload_n hx hb d_Law_law_713 rfl (lv_at hl 0 rfl) ?_
    refine lv_iload_n hx hb d_Law_law_714 rfl (lv_at hl 3 rfl) ?_
    refine lv_iconst (v := 1) hx hb d_Law_law_715 (by decide) ?_
    refine lv_iadd hx hb d_Law_law_716 ?_
    refine g_nI hf (fun x390 hf => ?_)
    have ⟨h391, hf⟩ := gd_e hf
    refine va_sld hx hb hX hbl hbA hS h391 d_Law_law_717 ?_
    refine g_nI hf (fun x392 hf => ?_)
    refine lv_aload_n hx hb d_Law_law_718 rfl (lv_at hl 0 rfl) ?_
    refine lv_iload_n hx hb d_Law_law_719 rfl (lv_at hl 3 rfl) ?_
    refine lv_iconst (v := 2) hx hb d_Law_law_720 (by decide) ?_
    refine lv_iadd hx hb d_Law_law_721 ?_
    refine g_nI hf (fun x393 hf => ?_)
    have ⟨h394, hf⟩ := gd_e hf
    refine va_sld hx hb hX hbl hbA hS h394 d_Law_law_722 ?_
    refine g_nI hf (fun x395 hf => ?_)
    refine lv_aload_n hx hb d_Law_law_723 rfl (lv_at hl 0 rfl) ?_
    refine lv_iload_n hx hb d_Law_law_724 rfl (lv_at hl 3 rfl) ?_
    refine lv_iconst (v := 3) hx hb d_Law_law_725 (by decide) ?_
    refine lv_iadd hx hb d_Law_law_726 ?_
    refine g_nI hf (fun x396 hf => ?_)
    have ⟨h397, hf⟩ := gd_e hf
    refine va_sld hx hb hX hbl hbA hS h397 d_Law_law_727 ?_
    refine g_nI hf (fun x398 hf => ?_)
    have ⟨h402, hf⟩ := gd_e hf
    have ⟨x399, w400, h401, hf⟩ := kl_e hf
    refine g_ki (g_rV (As := [.int x392, .int x395, .int x398]) (rest := [.int x386]) hx hb hml hown hts hK hR hS (c_M_more l D cA oc B N a2 x392 x395 x398 w387 h401) I_M_more m_1444 m_1446 (gRecv hK hR (ci := 12) rfl h402) rfl rfl (Nat.le_of_ble_eq_true rfl) hl.1 ⟨Nat.le_of_ble_eq_true rfl, Nat.le_of_ble_eq_true rfl⟩ ⟨h385.1, h385.2⟩ d_Law_law_728) hS (fun H locs hR hS => ?_)
    refine lv_icmp_eq (tgt := 1323) hx hb d_Law_law_731 (by decide) (fun hc => ?_) (fun hc => ?_)
    · have hf := cd_t hc hf
      refine g_iinc (lv' := fun x403 => [(3, .int x403), (0, .ref b), (1, .ref (B + a1)), (2, .ref (B + a2))]) hf hx hb d_Law_law_1323 hl (k := 3) rfl (by decide) (by decide) (fun _ => rfl) (fun x403 ls hf hl => ?_)
      refine lv_goto (tgt := 18) hx hb d_Law_law_1326 (by decide) ?_
      exact ih18 a1 a2 x403 kc ks w400 _ _ _ hf (lv_sub hl [1, 2, 3, 0] rfl) hR hS
    have hf := cd_f hc hf
    refine lv_iconst (v := 0) hx hb d_Law_law_734 (by decide) ?_
    cases hf
  have hf := cd_f hc375 hf
  by_cases hc404 : x18 = 18
  · refine lv_tableIn (off := 703) (tgt := 736) hx hb d_Law_law_33 (by rw [hc404]; decide) (by rw [hc404]; decide) (by rw [hc404]; rfl) (by decide) ?_
    have hf := cd_t hc404 hf
    refine lv_aload_n hx hb d_Law_law_736 rfl (lv_at hl 1 rfl) ?_
    refine lv_aload_n hx hb d_Law_law_737 rfl (lv_at hl 0 rfl) ?_
    refine lv_iload_n hx hb d_Law_law_738 rfl (lv_at hl 3 rfl) ?_
    refine lv_iconst (v := 1) hx hb d_Law_law_739 (by decide) ?_
    refine lv_iadd hx hb d_Law_law_740 ?_
    refine g_nI hf (fun x405 hf => ?_)
    have ⟨h406, hf⟩ := gd_e hf
    refine va_sld hx hb hX hbl hbA hS h406 d_Law_law_741 ?_
    refine g_nI hf (fun x407 hf => ?_)
    refine lv_aload_n hx hb d_Law_law_742 rfl (lv_at hl 0 rfl) ?_
    refine lv_iload_n hx hb d_Law_law_743 rfl (lv_at hl 3 rfl) ?_
    refine lv_iconst (v := 2) hx hb d_Law_law_744 (by decide) ?_
    refine lv_iadd hx hb d_Law_law_745 ?_
    refine g_nI hf (fun x408 hf => ?_)
    have ⟨h409, hf⟩ := gd_e hf
    refine va_sld hx hb hX hbl hbA hS h409 d_Law_law_746 ?_
    refine g_nI hf (fun x410 hf => ?_)
    have ⟨h411, hf⟩ := gd_e hf
    have ⟨h415, hf⟩ := gd_e hf
    have ⟨x412, w413, h414, hf⟩ := kl_e hf
    refine g_ki (g_rV (As := [.int x407, .int x410]) (rest := []) hx hb hml hown hts hK hR hS (c_X_heaviest l D cA oc B N a1 x407 x410 w h414) I_X_heaviest m_800 m_802 (gRecv hK hR (ci := 11) rfl h415) rfl rfl (Nat.le_of_ble_eq_true rfl) hl.1 ⟨Nat.le_of_ble_eq_true rfl, Nat.le_of_ble_eq_true rfl⟩ ⟨h411.1, h411.2⟩ d_Law_law_747) hS (fun H locs hR hS => ?_)
    refine lv_aload_n hx hb d_Law_law_750 rfl (lv_at hl 2 rfl) ?_
    refine lv_aload_n hx hb d_Law_law_751 rfl (lv_at hl 0 rfl) ?_
    refine lv_iload_n hx hb d_Law_law_752 rfl (lv_at hl 3 rfl) ?_
    refine lv_iconst (v := 1) hx hb d_Law_law_753 (by decide) ?_
    refine lv_iadd hx hb d_Law_law_754 ?_
    refine g_nI hf (fun x416 hf => ?_)
    have ⟨h417, hf⟩ := gd_e hf
    refine va_sld hx hb hX hbl hbA hS h417 d_Law_law_755 ?_
    refine g_nI hf (fun x418 hf => ?_)
    refine lv_aload_n hx hb d_Law_law_756 rfl (lv_at hl 0 rfl) ?_
    refine lv_iload_n hx hb d_Law_law_757 rfl (lv_at hl 3 rfl) ?_
    refine lv_iconst (v := 2) hx hb d_Law_law_758 (by decide) ?_
    refine lv_iadd hx hb d_Law_law_759 ?_
    refine g_nI hf (fun x419 hf => ?_)
    have ⟨h420, hf⟩ := gd_e hf
    refine va_sld hx hb hX hbl hbA hS h420 d_Law_law_760 ?_
    refine g_nI hf (fun x421 hf => ?_)
    have ⟨h425, hf⟩ := gd_e hf
    have ⟨x422, w423, h424, hf⟩ := kl_e hf
    refine g_ki (g_rV (As := [.int x418, .int x421]) (rest := [.int x412]) hx hb hml hown hts hK hR hS (c_M_heaviest l D cA oc B N a2 x418 x421 w413 h424) I_M_heaviest m_1450 m_1452 (gRecv hK hR (ci := 12) rfl h425) rfl rfl (Nat.le_of_ble_eq_true rfl) hl.1 ⟨Nat.le_of_ble_eq_true rfl, Nat.le_of_ble_eq_true rfl⟩ ⟨h411.1, h411.2⟩ d_Law_law_761) hS (fun H locs hR hS => ?_)
    refine lv_icmp_eq (tgt := 1323) hx hb d_Law_law_764 (by decide) (fun hc => ?_) (fun hc => ?_)
    · have hf := cd_t hc hf
      refine g_iinc (lv' := fun x426 => [(3, .int x426), (0, .ref b), (1, .ref (B + a1)), (2, .ref (B + a2))]) hf hx hb d_Law_law_1323 hl (k := 3) rfl (by decide) (by decide) (fun _ => rfl) (fun x426 ls hf hl => ?_)
      refine lv_goto (tgt := 18) hx hb d_Law_law_1326 (by decide) ?_
      exact ih18 a1 a2 x426 kc ks w423 _ _ _ hf (lv_sub hl [1, 2, 3, 0] rfl) hR hS
    have hf := cd_f hc hf
    refine lv_iconst (v := 0) hx hb d_Law_law_767 (by decide) ?_
    cases hf
  have hf := cd_f hc404 hf
  by_cases hc427 : x18 = 19
  · refine lv_tableIn (off := 736) (tgt := 769) hx hb d_Law_law_33 (by rw [hc427]; decide) (by rw [hc427]; decide) (by rw [hc427]; rfl) (by decide) ?_
    have hf := cd_t hc427 hf
    refine lv_aload_n hx hb d_Law_law_769 rfl (lv_at hl 1 rfl) ?_
    refine lv_aload_n hx hb d_Law_law_770 rfl (lv_at hl 0 rfl) ?_
    refine lv_iload_n hx hb d_Law_law_771 rfl (lv_at hl 3 rfl) ?_
    refine lv_iconst (v := 1) hx hb d_Law_law_772 (by decide) ?_
    refine lv_iadd hx hb d_Law_law_773 ?_
    refine g_nI hf (fun x428 hf => ?_)
    have ⟨h429, hf⟩ := gd_e hf
    refine va_sld hx hb hX hbl hbA hS h429 d_Law_law_774 ?_
    refine g_nI hf (fun x430 hf => ?_)
    refine lv_aload_n hx hb d_Law_law_775 rfl (lv_at hl 0 rfl) ?_
    refine lv_iload_n hx hb d_Law_law_776 rfl (lv_at hl 3 rfl) ?_
    refine lv_iconst (v := 2) hx hb d_Law_law_777 (by decide) ?_
    refine lv_iadd hx hb d_Law_law_778 ?_
    refine g_nI hf (fun x431 hf => ?_)
    have ⟨h432, hf⟩ := gd_e hf
    refine va_sld hx hb hX hbl hbA hS h432 d_Law_law_779 ?_
    refine g_nI hf (fun x433 hf => ?_)
    have ⟨h434, hf⟩ := gd_e hf
    have ⟨h438, hf⟩ := gd_e hf
    have ⟨x435, w436, h437, hf⟩ := kl_e hf
    refine g_ki (g_rV (As := [.int x430, .int x433]) (rest := []) hx hb hml hown hts hK hR hS (c_X_see l D cA oc B N a1 x430 x433 w h437) I_X_see m_805 m_807 (gRecv hK hR (ci := 11) rfl h438) rfl rfl (Nat.le_of_ble_eq_true rfl) hl.1 ⟨Nat.le_of_ble_eq_true rfl, Nat.le_of_ble_eq_true rfl⟩ ⟨h434.1, h434.2⟩ d_Law_law_780) hS (fun H locs hR hS => ?_)
    refine lv_aload_n hx hb d_Law_law_783 rfl (lv_at hl 2 rfl) ?_
    refine lv_aload_n hx hb d_Law_law_784 rfl (lv_at hl 0 rfl) ?_
    refine lv_iload_n hx hb d_Law_law_785 rfl (lv_at hl 3 rfl) ?_
    refine lv_iconst (v := 1) hx hb d_Law_law_786 (by decide) ?_
    refine lv_iadd hx hb d_Law_law_787 ?_
    refine g_nI hf (fun x439 hf => ?_)
    have ⟨h440, hf⟩ := gd_e hf
    refine va_sld hx hb hX hbl hbA hS h440 d_Law_law_788 ?_
    refine g_nI hf (fun x441 hf => ?_)
    refine lv_aload_n hx hb d_Law_law_789 rfl (lv_at hl 0 rfl) ?_
    refine lv_iload_n hx hb d_Law_law_790 rfl (lv_at hl 3 rfl) ?_
    refine lv_iconst (v := 2) hx hb d_Law_law_791 (by decide) ?_
    refine lv_iadd hx hb d_Law_law_792 ?_
    refine g_nI hf (fun x442 hf => ?_)
    have ⟨h443, hf⟩ := gd_e hf
    refine va_sld hx hb hX hbl hbA hS h443 d_Law_law_793 ?_
    refine g_nI hf (fun x444 hf => ?_)
    have ⟨h448, hf⟩ := gd_e hf
    have ⟨x445, w446, h447, hf⟩ := kl_e hf
    refine g_ki (g_rV (As := [.int x441, .int x444]) (rest := [.int x435]) hx hb hml hown hts hK hR hS (c_M_see l D cA oc B N a2 x441 x444 w436 h447) I_M_see m_1454 m_1456 (gRecv hK hR (ci := 12) rfl h448) rfl rfl (Nat.le_of_ble_eq_true rfl) hl.1 ⟨Nat.le_of_ble_eq_true rfl, Nat.le_of_ble_eq_true rfl⟩ ⟨h434.1, h434.2⟩ d_Law_law_794) hS (fun H locs hR hS => ?_)
    refine lv_icmp_eq (tgt := 1323) hx hb d_Law_law_797 (by decide) (fun hc => ?_) (fun hc => ?_)
    · have hf := cd_t hc hf
      refine g_iinc (lv' := fun x449 => [(3, .int x449), (0, .ref b), (1, .ref (B + a1)), (2, .ref (B + a2))]) hf hx hb d_Law_law_1323 hl (k := 3) rfl (by decide) (by decide) (fun _ => rfl) (fun x449 ls hf hl => ?_)
      refine lv_goto (tgt := 18) hx hb d_Law_law_1326 (by decide) ?_
      exact ih18 a1 a2 x449 kc ks w446 _ _ _ hf (lv_sub hl [1, 2, 3, 0] rfl) hR hS
    have hf := cd_f hc hf
    refine lv_iconst (v := 0) hx hb d_Law_law_800 (by decide) ?_
    cases hf
  have hf := cd_f hc427 hf
  by_cases hc450 : x18 = 20
  · refine lv_tableIn (off := 769) (tgt := 802) hx hb d_Law_law_33 (by rw [hc450]; decide) (by rw [hc450]; decide) (by rw [hc450]; rfl) (by decide) ?_
    have hf := cd_t hc450 hf
    refine lv_aload_n hx hb d_Law_law_802 rfl (lv_at hl 1 rfl) ?_
    have ⟨h451, hf⟩ := gd_e hf
    have ⟨h455, hf⟩ := gd_e hf
    have ⟨x452, w453, h454, hf⟩ := kl_e hf
    refine g_ki (g_rV (As := []) (rest := []) hx hb hml hown hts hK hR hS (c_X_fits l D cA oc B N a1 w h454) I_X_fits m_809 m_811 (gRecv hK hR (ci := 11) rfl h455) rfl rfl (Nat.le_of_ble_eq_true rfl) hl.1 ⟨Nat.le_of_ble_eq_true rfl, Nat.le_of_ble_eq_true rfl⟩ ⟨h451.1, h451.2⟩ d_Law_law_803) hS (fun H locs hR hS => ?_)
    refine lv_aload_n hx hb d_Law_law_806 rfl (lv_at hl 2 rfl) ?_
    have ⟨h459, hf⟩ := gd_e hf
    have ⟨x456, w457, h458, hf⟩ := kl_e hf
    refine g_ki (g_rV (As := []) (rest := [.int x452]) hx hb hml hown hts hK hR hS (c_M_fits l D cA oc B N a2 w453 h458) I_M_fits m_1458 m_1460 (gRecv hK hR (ci := 12) rfl h459) rfl rfl (Nat.le_of_ble_eq_true rfl) hl.1 ⟨Nat.le_of_ble_eq_true rfl, Nat.le_of_ble_eq_true rfl⟩ ⟨h451.1, h451.2⟩ d_Law_law_807) hS (fun H locs hR hS => ?_)
    refine lv_icmp_eq (tgt := 1323) hx hb d_Law_law_810 (by decide) (fun hc => ?_) (fun hc => ?_)
    · have hf := cd_t hc hf
      refine g_iinc (lv' := fun x460 => [(3, .int x460), (0, .ref b), (1, .ref (B + a1)), (2, .ref (B + a2))]) hf hx hb d_Law_law_1323 hl (k := 3) rfl (by decide) (by decide) (fun _ => rfl) (fun x460 ls hf hl => ?_)
      refine lv_goto (tgt := 18) hx hb d_Law_law_1326 (by decide) ?_
      exact ih18 a1 a2 x460 kc ks w457 _ _ _ hf (lv_sub hl [1, 2, 3, 0] rfl) hR hS
    have hf := cd_f hc hf
    refine lv_iconst (v := 0) hx hb d_Law_law_813 (by decide) ?_
    cases hf
  have hf := cd_f hc450 hf
  by_cases hc461 : x18 = 21
  · refine lv_tableIn (off := 782) (tgt := 815) hx hb d_Law_law_33 (by rw [hc461]; decide) (by rw [hc461]; decide) (by rw [hc461]; rfl) (by decide) ?_
    have hf := cd_t hc461 hf
    refine lv_aload_n hx hb d_Law_law_815 rfl (lv_at hl 1 rfl) ?_
    refine lv_aload_n hx hb d_Law_law_816 rfl (lv_at hl 0 rfl) ?_
    refine lv_iload_n hx hb d_Law_law_817 rfl (lv_at hl 3 rfl) ?_
    refine lv_iconst (v := 1) hx hb d_Law_law_818 (by decide) ?_
    refine lv_iadd hx hb d_Law_law_819 ?_
    refine g_nI hf (fun x462 hf => ?_)
    have ⟨h463, hf⟩ := gd_e hf
    refine va_sld hx hb hX hbl hbA hS h463 d_Law_law_820 ?_
    refine g_nI hf (fun x464 hf => ?_)
    refine lv_aload_n hx hb d_Law_law_821 rfl (lv_at hl 0 rfl) ?_
    refine lv_iload_n hx hb d_Law_law_822 rfl (lv_at hl 3 rfl) ?_
    refine lv_iconst (v := 2) hx hb d_Law_law_823 (by decide) ?_
    refine lv_iadd hx hb d_Law_law_824 ?_
    refine g_nI hf (fun x465 hf => ?_)
    have ⟨h466, hf⟩ := gd_e hf
    refine va_sld hx hb hX hbl hbA hS h466 d_Law_law_825 ?_
    refine g_nI hf (fun x467 hf => ?_)
    have ⟨h468, hf⟩ := gd_e hf
    have ⟨h472, hf⟩ := gd_e hf
    have ⟨x469, w470, h471, hf⟩ := kl_e hf
    refine g_kl (g_rV (As := [.int x464, .int x467]) (rest := []) hx hb hml hown hts hK hR hS (c_X_odds l D cA oc B N a1 x464 x467 w h471) I_X_odds m_817 m_819 (gRecv hK hR (ci := 11) rfl h472) rfl rfl (Nat.le_of_ble_eq_true rfl) hl.1 ⟨Nat.le_of_ble_eq_true rfl, Nat.le_of_ble_eq_true rfl⟩ ⟨h468.1, h468.2⟩ d_Law_law_826) hS (fun H locs hR hS => ?_)
    refine lv_aload_n hx hb d_Law_law_829 rfl (lv_at hl 2 rfl) ?_
    refine lv_aload_n hx hb d_Law_law_830 rfl (lv_at hl 0 rfl) ?_
    refine lv_iload_n hx hb d_Law_law_831 rfl (lv_at hl 3 rfl) ?_
    refine lv_iconst (v := 1) hx hb d_Law_law_832 (by decide) ?_
    refine lv_iadd hx hb d_Law_law_833 ?_
    refine g_nI hf (fun x473 hf => ?_)
    have ⟨h474, hf⟩ := gd_e hf
    refine va_sld hx hb hX hbl hbA hS h474 d_Law_law_834 ?_
    refine g_nI hf (fun x475 hf => ?_)
    refine lv_aload_n hx hb d_Law_law_835 rfl (lv_at hl 0 rfl) ?_
    refine lv_iload_n hx hb d_Law_law_836 rfl (lv_at hl 3 rfl) ?_
    refine lv_iconst (v := 2) hx hb d_Law_law_837 (by decide) ?_
    refine lv_iadd hx hb d_Law_law_838 ?_
    refine g_nI hf (fun x476 hf => ?_)
    have ⟨h477, hf⟩ := gd_e hf
    refine va_sld hx hb hX hbl hbA hS h477 d_Law_law_839 ?_
    refine g_nI hf (fun x478 hf => ?_)
    have ⟨h482, hf⟩ := gd_e hf
    have ⟨x479, w480, h481, hf⟩ := kl_e hf
    refine g_kl (g_rV (As := [.int x475, .int x478]) (rest := [.long x469]) hx hb hml hown hts hK hR hS (c_M_odds l D cA oc B N a2 x475 x478 w470 h481) I_M_odds m_1462 m_1464 (gRecv hK hR (ci := 12) rfl h482) rfl rfl (Nat.le_of_ble_eq_true rfl) hl.1 ⟨Nat.le_of_ble_eq_true rfl, Nat.le_of_ble_eq_true rfl⟩ ⟨h468.1, h468.2⟩ d_Law_law_840) hS (fun H locs hR hS => ?_)
    refine W.lcmp hx hb d_Law_law_843 ?_
    refine g_nI hf (fun x483 hf => ?_)
    refine lv_if_eq (tgt := 1323) hx hb d_Law_law_844 (by decide) (fun hc => ?_) (fun hc => ?_)
    · have hf := cd_t hc hf
      refine g_iinc (lv' := fun x484 => [(3, .int x484), (0, .ref b), (1, .ref (B + a1)), (2, .ref (B + a2))]) hf hx hb d_Law_law_1323 hl (k := 3) rfl (by decide) (by decide) (fun _ => rfl) (fun x484 ls hf hl => ?_)
      refine lv_goto (tgt := 18) hx hb d_Law_law_1326 (by decide) ?_
      exact ih18 a1 a2 x484 kc ks w480 _ _ _ hf (lv_sub hl [1, 2, 3, 0] rfl) hR hS
    have hf := cd_f hc hf
    refine lv_iconst (v := 0) hx hb d_Law_law_847 (by decide) ?_
    cases hf
  have hf := cd_f hc461 hf
  by_cases hc485 : x18 = 22
  · refine lv_tableIn (off := 816) (tgt := 849) hx hb d_Law_law_33 (by rw [hc485]; decide) (by rw [hc485]; decide) (by rw [hc485]; rfl) (by decide) ?_
    have hf := cd_t hc485 hf
    refine lv_aload_n hx hb d_Law_law_849 rfl (lv_at hl 1 rfl) ?_
    refine lv_aload_n hx hb d_Law_law_850 rfl (lv_at hl 0 rfl) ?_
    refine lv_iload_n hx hb d_Law_law_851 rfl (lv_at hl 3 rfl) ?_
    refine lv_iconst (v := 1) hx hb d_Law_law_852 (by decide) ?_
    refine lv_iadd hx hb d_Law_law_853 ?_
    refine g_nI hf (fun x486 hf => ?_)
    have ⟨h487, hf⟩ := gd_e hf
    refine va_sld hx hb hX hbl hbA hS h487 d_Law_law_854 ?_
    refine g_nI hf (fun x488 hf => ?_)
    refine lv_aload_n hx hb d_Law_law_855 rfl (lv_at hl 0 rfl) ?_
    refine lv_iload_n hx hb d_Law_law_856 rfl (lv_at hl 3 rfl) ?_
    refine lv_iconst (v := 2) hx hb d_Law_law_857 (by decide) ?_
    refine lv_iadd hx hb d_Law_law_858 ?_
    refine g_nI hf (fun x489 hf => ?_)
    have ⟨h490, hf⟩ := gd_e hf
    refine va_sld hx hb hX hbl hbA hS h490 d_Law_law_859 ?_
    refine g_nI hf (fun x491 hf => ?_)
    have ⟨h492, hf⟩ := gd_e hf
    have ⟨h496, hf⟩ := gd_e hf
    have ⟨x493, w494, h495, hf⟩ := kl_e hf
    refine g_kl (g_rV (As := [.int x488, .int x491]) (rest := []) hx hb hml hown hts hK hR hS (c_X_mean l D cA oc B N a1 x488 x491 w h495) I_X_mean m_828 m_830 (gRecv hK hR (ci := 11) rfl h496) rfl rfl (Nat.le_of_ble_eq_true rfl) hl.1 ⟨Nat.le_of_ble_eq_true rfl, Nat.le_of_ble_eq_true rfl⟩ ⟨h492.1, h492.2⟩ d_Law_law_860) hS (fun H locs hR hS => ?_)
    refine lv_aload_n hx hb d_Law_law_863 rfl (lv_at hl 2 rfl) ?_
    refine lv_aload_n hx hb d_Law_law_864 rfl (lv_at hl 0 rfl) ?_
    refine lv_iload_n hx hb d_Law_law_865 rfl (lv_at hl 3 rfl) ?_
    refine lv_iconst (v := 1) hx hb d_Law_law_866 (by decide) ?_
    refine lv_iadd hx hb d_Law_law_867 ?_
    refine g_nI hf (fun x497 hf => ?_)
    have ⟨h498, hf⟩ := gd_e hf
    refine va_sld hx hb hX hbl hbA hS h498 d_Law_law_868 ?_
    refine g_nI hf (fun x499 hf => ?_)
    refine lv_aload_n hx hb d_Law_law_869 rfl (lv_at hl 0 rfl) ?_
    refine lv_iload_n hx hb d_Law_law_870 rfl (lv_at hl 3 rfl) ?_
    refine lv_iconst (v := 2) hx hb d_Law_law_871 (by decide) ?_
    refine lv_iadd hx hb d_Law_law_872 ?_
    refine g_nI hf (fun x500 hf => ?_)
    have ⟨h501, hf⟩ := gd_e hf
    refine va_sld hx hb hX hbl hbA hS h501 d_Law_law_873 ?_
    refine g_nI hf (fun x502 hf => ?_)
    have ⟨h506, hf⟩ := gd_e hf
    have ⟨x503, w504, h505, hf⟩ := kl_e hf
    refine g_kl (g_rV (As := [.int x499, .int x502]) (rest := [.long x493]) hx hb hml hown hts hK hR hS (c_M_mean l D cA oc B N a2 x499 x502 w494 h505) I_M_mean m_1475 m_1477 (gRecv hK hR (ci := 12) rfl h506) rfl rfl (Nat.le_of_ble_eq_true rfl) hl.1 ⟨Nat.le_of_ble_eq_true rfl, Nat.le_of_ble_eq_true rfl⟩ ⟨h492.1, h492.2⟩ d_Law_law_874) hS (fun H locs hR hS => ?_)
    refine W.lcmp hx hb d_Law_law_877 ?_
    refine g_nI hf (fun x507 hf => ?_)
    refine lv_if_eq (tgt := 1323) hx hb d_Law_law_878 (by decide) (fun hc => ?_) (fun hc => ?_)
    · have hf := cd_t hc hf
      refine g_iinc (lv' := fun x508 => [(3, .int x508), (0, .ref b), (1, .ref (B + a1)), (2, .ref (B + a2))]) hf hx hb d_Law_law_1323 hl (k := 3) rfl (by decide) (by decide) (fun _ => rfl) (fun x508 ls hf hl => ?_)
      refine lv_goto (tgt := 18) hx hb d_Law_law_1326 (by decide) ?_
      exact ih18 a1 a2 x508 kc ks w504 _ _ _ hf (lv_sub hl [1, 2, 3, 0] rfl) hR hS
    have hf := cd_f hc hf
    refine lv_iconst (v := 0) hx hb d_Law_law_881 (by decide) ?_
    cases hf
  have hf := cd_f hc485 hf
  by_cases hc509 : x18 = 23
  · refine lv_tableIn (off := 850) (tgt := 883) hx hb d_Law_law_33 (by rw [hc509]; decide) (by rw [hc509]; decide) (by rw [hc509]; rfl) (by decide) ?_
    have hf := cd_t hc509 hf
    refine lv_aload_n hx hb d_Law_law_883 rfl (lv_at hl 1 rfl) ?_
    refine lv_aload_n hx hb d_Law_law_884 rfl (lv_at hl 0 rfl) ?_
    refine lv_iload_n hx hb d_Law_law_885 rfl (lv_at hl 3 rfl) ?_
    refine lv_iconst (v := 1) hx hb d_Law_law_886 (by decide) ?_
    refine lv_iadd hx hb d_Law_law_887 ?_
    refine g_nI hf (fun x510 hf => ?_)
    have ⟨h511, hf⟩ := gd_e hf
    refine va_sld hx hb hX hbl hbA hS h511 d_Law_law_888 ?_
    refine g_nI hf (fun x512 hf => ?_)
    refine lv_aload_n hx hb d_Law_law_889 rfl (lv_at hl 0 rfl) ?_
    refine lv_iload_n hx hb d_Law_law_890 rfl (lv_at hl 3 rfl) ?_
    refine lv_iconst (v := 2) hx hb d_Law_law_891 (by decide) ?_
    refine lv_iadd hx hb d_Law_law_892 ?_
    refine g_nI hf (fun x513 hf => ?_)
    have ⟨h514, hf⟩ := gd_e hf
    refine va_sld hx hb hX hbl hbA hS h514 d_Law_law_893 ?_
    refine g_nI hf (fun x515 hf => ?_)
    have ⟨h516, hf⟩ := gd_e hf
    have ⟨h520, hf⟩ := gd_e hf
    have ⟨x517, w518, h519, hf⟩ := kl_e hf
    refine g_ki (g_rV (As := [.int x512, .int x515]) (rest := []) hx hb hml hown hts hK hR hS (c_X_book l D cA oc B N a1 x512 x515 w h519) I_X_book m_832 m_834 (gRecv hK hR (ci := 11) rfl h520) rfl rfl (Nat.le_of_ble_eq_true rfl) hl.1 ⟨Nat.le_of_ble_eq_true rfl, Nat.le_of_ble_eq_true rfl⟩ ⟨h516.1, h516.2⟩ d_Law_law_894) hS (fun H locs hR hS => ?_)
    refine lv_aload_n hx hb d_Law_law_897 rfl (lv_at hl 2 rfl) ?_
    refine lv_aload_n hx hb d_Law_law_898 rfl (lv_at hl 0 rfl) ?_
    refine lv_iload_n hx hb d_Law_law_899 rfl (lv_at hl 3 rfl) ?_
    refine lv_iconst (v := 1) hx hb d_Law_law_900 (by decide) ?_
    refine lv_iadd hx hb d_Law_law_901 ?_
    refine g_nI hf (fun x521 hf => ?_)
    have ⟨h522, hf⟩ := gd_e hf
    refine va_sld hx hb hX hbl hbA hS h522 d_Law_law_902 ?_
    refine g_nI hf (fun x523 hf => ?_)
    refine lv_aload_n hx hb d_Law_law_903 rfl (lv_at hl 0 rfl) ?_
    refine lv_iload_n hx hb d_Law_law_904 rfl (lv_at hl 3 rfl) ?_
    refine lv_iconst (v := 2) hx hb d_Law_law_905 (by decide) ?_
    refine lv_iadd hx hb d_Law_law_906 ?_
    refine g_nI hf (fun x524 hf => ?_)
    have ⟨h525, hf⟩ := gd_e hf
    refine va_sld hx hb hX hbl hbA hS h525 d_Law_law_907 ?_
    refine g_nI hf (fun x526 hf => ?_)
    have ⟨h530, hf⟩ := gd_e hf
    have ⟨x527, w528, h529, hf⟩ := kl_e hf
    refine g_ki (g_rV (As := [.int x523, .int x526]) (rest := [.int x517]) hx hb hml hown hts hK hR hS (c_M_book l D cA oc B N a2 x523 x526 w518 h529) I_M_book m_1479 m_1481 (gRecv hK hR (ci := 12) rfl h530) rfl rfl (Nat.le_of_ble_eq_true rfl) hl.1 ⟨Nat.le_of_ble_eq_true rfl, Nat.le_of_ble_eq_true rfl⟩ ⟨h516.1, h516.2⟩ d_Law_law_908) hS (fun H locs hR hS => ?_)
    refine lv_icmp_eq (tgt := 1323) hx hb d_Law_law_911 (by decide) (fun hc => ?_) (fun hc => ?_)
    · have hf := cd_t hc hf
      refine g_iinc (lv' := fun x531 => [(3, .int x531), (0, .ref b), (1, .ref (B + a1)), (2, .ref (B + a2))]) hf hx hb d_Law_law_1323 hl (k := 3) rfl (by decide) (by decide) (fun _ => rfl) (fun x531 ls hf hl => ?_)
      refine lv_goto (tgt := 18) hx hb d_Law_law_1326 (by decide) ?_
      exact ih18 a1 a2 x531 kc ks w528 _ _ _ hf (lv_sub hl [1, 2, 3, 0] rfl) hR hS
    have hf := cd_f hc hf
    refine lv_iconst (v := 0) hx hb d_Law_law_914 (by decide) ?_
    cases hf
  have hf := cd_f hc509 hf
  by_cases hc532 : x18 = 24
  · refine lv_tableIn (off := 883) (tgt := 916) hx hb d_Law_law_33 (by rw [hc532]; decide) (by rw [hc532]; decide) (by rw [hc532]; rfl) (by decide) ?_
    have hf := cd_t hc532 hf
    refine lv_aload_n hx hb d_Law_law_916 rfl (lv_at hl 1 rfl) ?_
    have ⟨h533, hf⟩ := gd_e hf
    have ⟨h537, hf⟩ := gd_e hf
    have ⟨x534, w535, h536, hf⟩ := kl_e hf
    refine g_ki (g_rV (As := []) (rest := []) hx hb hml hown hts hK hR hS (c_X_looked l D cA oc B N a1 w h536) I_X_looked m_836 m_838 (gRecv hK hR (ci := 11) rfl h537) rfl rfl (Nat.le_of_ble_eq_true rfl) hl.1 ⟨Nat.le_of_ble_eq_true rfl, Nat.le_of_ble_eq_true rfl⟩ ⟨h533.1, h533.2⟩ d_Law_law_917) hS (fun H locs hR hS => ?_)
    refine lv_aload_n hx hb d_Law_law_920 rfl (lv_at hl 2 rfl) ?_
    have ⟨h541, hf⟩ := gd_e hf
    have ⟨x538, w539, h540, hf⟩ := kl_e hf
    refine g_ki (g_rV (As := []) (rest := [.int x534]) hx hb hml hown hts hK hR hS (c_M_looked l D cA oc B N a2 w535 h540) I_M_looked m_1483 m_1485 (gRecv hK hR (ci := 12) rfl h541) rfl rfl (Nat.le_of_ble_eq_true rfl) hl.1 ⟨Nat.le_of_ble_eq_true rfl, Nat.le_of_ble_eq_true rfl⟩ ⟨h533.1, h533.2⟩ d_Law_law_921) hS (fun H locs hR hS => ?_)
    refine lv_icmp_eq (tgt := 1323) hx hb d_Law_law_924 (by decide) (fun hc => ?_) (fun hc => ?_)
    · have hf := cd_t hc hf
      refine g_iinc (lv' := fun x542 => [(3, .int x542), (0, .ref b), (1, .ref (B + a1)), (2, .ref (B + a2))]) hf hx hb d_Law_law_1323 hl (k := 3) rfl (by decide) (by decide) (fun _ => rfl) (fun x542 ls hf hl => ?_)
      refine lv_goto (tgt := 18) hx hb d_Law_law_1326 (by decide) ?_
      exact ih18 a1 a2 x542 kc ks w539 _ _ _ hf (lv_sub hl [1, 2, 3, 0] rfl) hR hS
    have hf := cd_f hc hf
    refine lv_iconst (v := 0) hx hb d_Law_law_927 (by decide) ?_
    cases hf
  have hf := cd_f hc532 hf
  by_cases hc543 : x18 = 25
  · refine lv_tableIn (off := 896) (tgt := 929) hx hb d_Law_law_33 (by rw [hc543]; decide) (by rw [hc543]; decide) (by rw [hc543]; rfl) (by decide) ?_
    have hf := cd_t hc543 hf
    refine lv_aload_n hx hb d_Law_law_929 rfl (lv_at hl 1 rfl) ?_
    refine lv_aload_n hx hb d_Law_law_930 rfl (lv_at hl 0 rfl) ?_
    refine lv_iload_n hx hb d_Law_law_931 rfl (lv_at hl 3 rfl) ?_
    refine lv_iconst (v := 1) hx hb d_Law_law_932 (by decide) ?_
    refine lv_iadd hx hb d_Law_law_933 ?_
    refine g_nI hf (fun x544 hf => ?_)
    have ⟨h545, hf⟩ := gd_e hf
    refine va_sld hx hb hX hbl hbA hS h545 d_Law_law_934 ?_
    refine g_nI hf (fun x546 hf => ?_)
    refine lv_aload_n hx hb d_Law_law_935 rfl (lv_at hl 0 rfl) ?_
    refine lv_iload_n hx hb d_Law_law_936 rfl (lv_at hl 3 rfl) ?_
    refine lv_iconst (v := 2) hx hb d_Law_law_937 (by decide) ?_
    refine lv_iadd hx hb d_Law_law_938 ?_
    refine g_nI hf (fun x547 hf => ?_)
    have ⟨h548, hf⟩ := gd_e hf
    refine va_sld hx hb hX hbl hbA hS h548 d_Law_law_939 ?_
    refine g_nI hf (fun x549 hf => ?_)
    have ⟨h550, hf⟩ := gd_e hf
    have ⟨h554, hf⟩ := gd_e hf
    have ⟨x551, w552, h553, hf⟩ := kl_e hf
    refine g_ki (g_rV (As := [.int x546, .int x549]) (rest := []) hx hb hml hown hts hK hR hS (c_X_judge l D cA oc B N a1 x546 x549 w h553) I_X_judge m_840 m_842 (gRecv hK hR (ci := 11) rfl h554) rfl rfl (Nat.le_of_ble_eq_true rfl) hl.1 ⟨Nat.le_of_ble_eq_true rfl, Nat.le_of_ble_eq_true rfl⟩ ⟨h550.1, h550.2⟩ d_Law_law_940) hS (fun H locs hR hS => ?_)
    refine lv_aload_n hx hb d_Law_law_943 rfl (lv_at hl 2 rfl) ?_
    refine lv_aload_n hx hb d_Law_law_944 rfl (lv_at hl 0 rfl) ?_
    refine lv_iload_n hx hb d_Law_law_945 rfl (lv_at hl 3 rfl) ?_
    refine lv_iconst (v := 1) hx hb d_Law_law_946 (by decide) ?_
    refine lv_iadd hx hb d_Law_law_947 ?_
    refine g_nI hf (fun x555 hf => ?_)
    have ⟨h556, hf⟩ := gd_e hf
    refine va_sld hx hb hX hbl hbA hS h556 d_Law_law_948 ?_
    refine g_nI hf (fun x557 hf => ?_)
    refine lv_aload_n hx hb d_Law_law_949 rfl (lv_at hl 0 rfl) ?_
    refine lv_iload_n hx hb d_Law_law_950 rfl (lv_at hl 3 rfl) ?_
    refine lv_iconst (v := 2) hx hb d_Law_law_951 (by decide) ?_
    refine lv_iadd hx hb d_Law_law_952 ?_
    refine g_nI hf (fun x558 hf => ?_)
    have ⟨h559, hf⟩ := gd_e hf
    refine va_sld hx hb hX hbl hbA hS h559 d_Law_law_953 ?_
    refine g_nI hf (fun x560 hf => ?_)
    have ⟨h564, hf⟩ := gd_e hf
    have ⟨x561, w562, h563, hf⟩ := kl_e hf
    refine g_ki (g_rV (As := [.int x557, .int x560]) (rest := [.int x551]) hx hb hml hown hts hK hR hS (c_M_judge l D cA oc B N a2 x557 x560 w552 h563) I_M_judge m_1487 m_1489 (gRecv hK hR (ci := 12) rfl h564) rfl rfl (Nat.le_of_ble_eq_true rfl) hl.1 ⟨Nat.le_of_ble_eq_true rfl, Nat.le_of_ble_eq_true rfl⟩ ⟨h550.1, h550.2⟩ d_Law_law_954) hS (fun H locs hR hS => ?_)
    refine lv_icmp_eq (tgt := 1323) hx hb d_Law_law_957 (by decide) (fun hc => ?_) (fun hc => ?_)
    · have hf := cd_t hc hf
      refine g_iinc (lv' := fun x565 => [(3, .int x565), (0, .ref b), (1, .ref (B + a1)), (2, .ref (B + a2))]) hf hx hb d_Law_law_1323 hl (k := 3) rfl (by decide) (by decide) (fun _ => rfl) (fun x565 ls hf hl => ?_)
      refine lv_goto (tgt := 18) hx hb d_Law_law_1326 (by decide) ?_
      exact ih18 a1 a2 x565 kc ks w562 _ _ _ hf (lv_sub hl [1, 2, 3, 0] rfl) hR hS
    have hf := cd_f hc hf
    refine lv_iconst (v := 0) hx hb d_Law_law_960 (by decide) ?_
    cases hf
  have hf := cd_f hc543 hf
  by_cases hc566 : x18 = 26
  · refine lv_tableIn (off := 929) (tgt := 962) hx hb d_Law_law_33 (by rw [hc566]; decide) (by rw [hc566]; decide) (by rw [hc566]; rfl) (by decide) ?_
    have hf := cd_t hc566 hf
    refine lv_aload_n hx hb d_Law_law_962 rfl (lv_at hl 1 rfl) ?_
    have ⟨h567, hf⟩ := gd_e hf
    have ⟨h571, hf⟩ := gd_e hf
    have ⟨x568, w569, h570, hf⟩ := kl_e hf
    refine g_ki (g_rV (As := []) (rest := []) hx hb hml hown hts hK hR hS (c_X_image l D cA oc B N a1 w h570) I_X_image m_847 m_849 (gRecv hK hR (ci := 11) rfl h571) rfl rfl (Nat.le_of_ble_eq_true rfl) hl.1 ⟨Nat.le_of_ble_eq_true rfl, Nat.le_of_ble_eq_true rfl⟩ ⟨h567.1, h567.2⟩ d_Law_law_963) hS (fun H locs hR hS => ?_)
    refine lv_aload_n hx hb d_Law_law_966 rfl (lv_at hl 2 rfl) ?_
    have ⟨h575, hf⟩ := gd_e hf
    have ⟨x572, w573, h574, hf⟩ := kl_e hf
    refine g_ki (g_rV (As := []) (rest := [.int x568]) hx hb hml hown hts hK hR hS (c_M_image l D cA oc B N a2 w569 h574) I_M_image m_1495 m_1497 (gRecv hK hR (ci := 12) rfl h575) rfl rfl (Nat.le_of_ble_eq_true rfl) hl.1 ⟨Nat.le_of_ble_eq_true rfl, Nat.le_of_ble_eq_true rfl⟩ ⟨h567.1, h567.2⟩ d_Law_law_967) hS (fun H locs hR hS => ?_)
    refine lv_icmp_eq (tgt := 1323) hx hb d_Law_law_970 (by decide) (fun hc => ?_) (fun hc => ?_)
    · have hf := cd_t hc hf
      refine g_iinc (lv' := fun x576 => [(3, .int x576), (0, .ref b), (1, .ref (B + a1)), (2, .ref (B + a2))]) hf hx hb d_Law_law_1323 hl (k := 3) rfl (by decide) (by decide) (fun _ => rfl) (fun x576 ls hf hl => ?_)
      refine lv_goto (tgt := 18) hx hb d_Law_law_1326 (by decide) ?_
      exact ih18 a1 a2 x576 kc ks w573 _ _ _ hf (lv_sub hl [1, 2, 3, 0] rfl) hR hS
    have hf := cd_f hc hf
    refine lv_iconst (v := 0) hx hb d_Law_law_973 (by decide) ?_
    cases hf
  have hf := cd_f hc566 hf
  by_cases hc577 : x18 = 27
  · refine lv_tableIn (off := 942) (tgt := 975) hx hb d_Law_law_33 (by rw [hc577]; decide) (by rw [hc577]; decide) (by rw [hc577]; rfl) (by decide) ?_
    have hf := cd_t hc577 hf
    refine lv_aload_n hx hb d_Law_law_975 rfl (lv_at hl 1 rfl) ?_
    have ⟨h578, hf⟩ := gd_e hf
    have ⟨h582, hf⟩ := gd_e hf
    have ⟨x579, w580, h581, hf⟩ := kl_e hf
    refine g_ki (g_rV (As := []) (rest := []) hx hb hml hown hts hK hR hS (c_X_undo l D cA oc B N a1 w h581) I_X_undo m_851 m_853 (gRecv hK hR (ci := 11) rfl h582) rfl rfl (Nat.le_of_ble_eq_true rfl) hl.1 ⟨Nat.le_of_ble_eq_true rfl, Nat.le_of_ble_eq_true rfl⟩ ⟨h578.1, h578.2⟩ d_Law_law_976) hS (fun H locs hR hS => ?_)
    refine lv_aload_n hx hb d_Law_law_979 rfl (lv_at hl 2 rfl) ?_
    have ⟨h586, hf⟩ := gd_e hf
    have ⟨x583, w584, h585, hf⟩ := kl_e hf
    refine g_ki (g_rV (As := []) (rest := [.int x579]) hx hb hml hown hts hK hR hS (c_M_undo l D cA oc B N a2 w580 h585) I_M_undo m_1499 m_1501 (gRecv hK hR (ci := 12) rfl h586) rfl rfl (Nat.le_of_ble_eq_true rfl) hl.1 ⟨Nat.le_of_ble_eq_true rfl, Nat.le_of_ble_eq_true rfl⟩ ⟨h578.1, h578.2⟩ d_Law_law_980) hS (fun H locs hR hS => ?_)
    refine lv_icmp_eq (tgt := 1323) hx hb d_Law_law_983 (by decide) (fun hc => ?_) (fun hc => ?_)
    · have hf := cd_t hc hf
      refine g_iinc (lv' := fun x587 => [(3, .int x587), (0, .ref b), (1, .ref (B + a1)), (2, .ref (B + a2))]) hf hx hb d_Law_law_1323 hl (k := 3) rfl (by decide) (by decide) (fun _ => rfl) (fun x587 ls hf hl => ?_)
      refine lv_goto (tgt := 18) hx hb d_Law_law_1326 (by decide) ?_
      exact ih18 a1 a2 x587 kc ks w584 _ _ _ hf (lv_sub hl [1, 2, 3, 0] rfl) hR hS
    have hf := cd_f hc hf
    refine lv_iconst (v := 0) hx hb d_Law_law_986 (by decide) ?_
    cases hf
  have hf := cd_f hc577 hf
  by_cases hc588 : x18 = 28
  · refine lv_tableIn (off := 955) (tgt := 988) hx hb d_Law_law_33 (by rw [hc588]; decide) (by rw [hc588]; decide) (by rw [hc588]; rfl) (by decide) ?_
    have hf := cd_t hc588 hf
    refine lv_aload_n hx hb d_Law_law_988 rfl (lv_at hl 1 rfl) ?_
    refine lv_aload_n hx hb d_Law_law_989 rfl (lv_at hl 0 rfl) ?_
    refine lv_iload_n hx hb d_Law_law_990 rfl (lv_at hl 3 rfl) ?_
    refine lv_iconst (v := 1) hx hb d_Law_law_991 (by decide) ?_
    refine lv_iadd hx hb d_Law_law_992 ?_
    refine g_nI hf (fun x589 hf => ?_)
    have ⟨h590, hf⟩ := gd_e hf
    refine va_sld hx hb hX hbl hbA hS h590 d_Law_law_993 ?_
    refine g_nI hf (fun x591 hf => ?_)
    refine lv_aload_n hx hb d_Law_law_994 rfl (lv_at hl 0 rfl) ?_
    refine lv_iload_n hx hb d_Law_law_995 rfl (lv_at hl 3 rfl) ?_
    refine lv_iconst (v := 2) hx hb d_Law_law_996 (by decide) ?_
    refine lv_iadd hx hb d_Law_law_997 ?_
    refine g_nI hf (fun x592 hf => ?_)
    have ⟨h593, hf⟩ := gd_e hf
    refine va_sld hx hb hX hbl hbA hS h593 d_Law_law_998 ?_
    refine g_nI hf (fun x594 hf => ?_)
    refine lv_aload_n hx hb d_Law_law_999 rfl (lv_at hl 0 rfl) ?_
    refine lv_iload_n hx hb d_Law_law_1000 rfl (lv_at hl 3 rfl) ?_
    refine lv_iconst (v := 3) hx hb d_Law_law_1001 (by decide) ?_
    refine lv_iadd hx hb d_Law_law_1002 ?_
    refine g_nI hf (fun x595 hf => ?_)
    have ⟨h596, hf⟩ := gd_e hf
    refine va_sld hx hb hX hbl hbA hS h596 d_Law_law_1003 ?_
    refine g_nI hf (fun x597 hf => ?_)
    have ⟨h598, hf⟩ := gd_e hf
    have ⟨h602, hf⟩ := gd_e hf
    have ⟨x599, w600, h601, hf⟩ := kl_e hf
    refine g_ki (g_rV (As := [.int x591, .int x594, .int x597]) (rest := []) hx hb hml hown hts hK hR hS (c_X_act l D cA oc B N a1 x591 x594 x597 w h601) I_X_act m_855 m_857 (gRecv hK hR (ci := 11) rfl h602) rfl rfl (Nat.le_of_ble_eq_true rfl) hl.1 ⟨Nat.le_of_ble_eq_true rfl, Nat.le_of_ble_eq_true rfl⟩ ⟨h598.1, h598.2⟩ d_Law_law_1004) hS (fun H locs hR hS => ?_)
    refine lv_aload_n hx hb d_Law_law_1007 rfl (lv_at hl 2 rfl) ?_
    refine lv_aload_n hx hb d_Law_law_1008 rfl (lv_at hl 0 rfl) ?_
    refine lv_iload_n hx hb d_Law_law_1009 rfl (lv_at hl 3 rfl) ?_
    refine lv_iconst (v := 1) hx hb d_Law_law_1010 (by decide) ?_
    refine lv_iadd hx hb d_Law_law_1011 ?_
    refine g_nI hf (fun x603 hf => ?_)
    have ⟨h604, hf⟩ := gd_e hf
    refine va_sld hx hb hX hbl hbA hS h604 d_Law_law_1012 ?_
    refine g_nI hf (fun x605 hf => ?_)
    refine lv_aload_n hx hb d_Law_law_1013 rfl (lv_at hl 0 rfl) ?_
    refine lv_iload_n hx hb d_Law_law_1014 rfl (lv_at hl 3 rfl) ?_
    refine lv_iconst (v := 2) hx hb d_Law_law_1015 (by decide) ?_
    refine lv_iadd hx hb d_Law_law_1016 ?_
    refine g_nI hf (fun x606 hf => ?_)
    have ⟨h607, hf⟩ := gd_e hf
    refine va_sld hx hb hX hbl hbA hS h607 d_Law_law_1017 ?_
    refine g_nI hf (fun x608 hf => ?_)
    refine lv_aload_n hx hb d_Law_law_1018 rfl (lv_at hl 0 rfl) ?_
    refine lv_iload_n hx hb d_Law_law_1019 rfl (lv_at hl 3 rfl) ?_
    refine lv_iconst (v := 3) hx hb d_Law_law_1020 (by decide) ?_
    refine lv_iadd hx hb d_Law_law_1021 ?_
    refine g_nI hf (fun x609 hf => ?_)
    have ⟨h610, hf⟩ := gd_e hf
    refine va_sld hx hb hX hbl hbA hS h610 d_Law_law_1022 ?_
    refine g_nI hf (fun x611 hf => ?_)
    have ⟨h615, hf⟩ := gd_e hf
    have ⟨x612, w613, h614, hf⟩ := kl_e hf
    refine g_ki (g_rV (As := [.int x605, .int x608, .int x611]) (rest := [.int x599]) hx hb hml hown hts hK hR hS (c_M_act l D cA oc B N a2 x605 x608 x611 w600 h614) I_M_act m_1503 m_1505 (gRecv hK hR (ci := 12) rfl h615) rfl rfl (Nat.le_of_ble_eq_true rfl) hl.1 ⟨Nat.le_of_ble_eq_true rfl, Nat.le_of_ble_eq_true rfl⟩ ⟨h598.1, h598.2⟩ d_Law_law_1023) hS (fun H locs hR hS => ?_)
    refine lv_icmp_eq (tgt := 1323) hx hb d_Law_law_1026 (by decide) (fun hc => ?_) (fun hc => ?_)
    · have hf := cd_t hc hf
      refine g_iinc (lv' := fun x616 => [(3, .int x616), (0, .ref b), (1, .ref (B + a1)), (2, .ref (B + a2))]) hf hx hb d_Law_law_1323 hl (k := 3) rfl (by decide) (by decide) (fun _ => rfl) (fun x616 ls hf hl => ?_)
      refine lv_goto (tgt := 18) hx hb d_Law_law_1326 (by decide) ?_
      exact ih18 a1 a2 x616 kc ks w613 _ _ _ hf (lv_sub hl [1, 2, 3, 0] rfl) hR hS
    have hf := cd_f hc hf
    refine lv_iconst (v := 0) hx hb d_Law_law_1029 (by decide) ?_
    cases hf
  have hf := cd_f hc588 hf
  by_cases hc617 : x18 = 29
  · refine lv_tableIn (off := 998) (tgt := 1031) hx hb d_Law_law_33 (by rw [hc617]; decide) (by rw [hc617]; decide) (by rw [hc617]; rfl) (by decide) ?_
    have hf := cd_t hc617 hf
    refine lv_aload_n hx hb d_Law_law_1031 rfl (lv_at hl 1 rfl) ?_
    refine lv_aload_n hx hb d_Law_law_1032 rfl (lv_at hl 0 rfl) ?_
    refine lv_iload_n hx hb d_Law_law_1033 rfl (lv_at hl 3 rfl) ?_
    refine lv_iconst (v := 1) hx hb d_Law_law_1034 (by decide) ?_
    refine lv_iadd hx hb d_Law_law_1035 ?_
    refine g_nI hf (fun x618 hf => ?_)
    have ⟨h619, hf⟩ := gd_e hf
    refine va_sld hx hb hX hbl hbA hS h619 d_Law_law_1036 ?_
    refine g_nI hf (fun x620 hf => ?_)
    have ⟨h621, hf⟩ := gd_e hf
    have ⟨h625, hf⟩ := gd_e hf
    have ⟨x622, w623, h624, hf⟩ := kl_e hf
    refine g_ki (g_rV (As := [.int x620]) (rest := []) hx hb hml hown hts hK hR hS (c_X_trace l D cA oc B N a1 x620 w h624) I_X_trace m_938 m_940 (gRecv hK hR (ci := 11) rfl h625) rfl rfl (Nat.le_of_ble_eq_true rfl) hl.1 ⟨Nat.le_of_ble_eq_true rfl, Nat.le_of_ble_eq_true rfl⟩ ⟨h621.1, h621.2⟩ d_Law_law_1037) hS (fun H locs hR hS => ?_)
    refine lv_aload_n hx hb d_Law_law_1040 rfl (lv_at hl 2 rfl) ?_
    refine lv_aload_n hx hb d_Law_law_1041 rfl (lv_at hl 0 rfl) ?_
    refine lv_iload_n hx hb d_Law_law_1042 rfl (lv_at hl 3 rfl) ?_
    refine lv_iconst (v := 1) hx hb d_Law_law_1043 (by decide) ?_
    refine lv_iadd hx hb d_Law_law_1044 ?_
    refine g_nI hf (fun x626 hf => ?_)
    have ⟨h627, hf⟩ := gd_e hf
    refine va_sld hx hb hX hbl hbA hS h627 d_Law_law_1045 ?_
    refine g_nI hf (fun x628 hf => ?_)
    have ⟨h632, hf⟩ := gd_e hf
    have ⟨x629, w630, h631, hf⟩ := kl_e hf
    refine g_ki (g_rV (As := [.int x628]) (rest := [.int x622]) hx hb hml hown hts hK hR hS (c_M_trace l D cA oc B N a2 x628 w623 h631) I_M_trace m_1539 m_1541 (gRecv hK hR (ci := 12) rfl h632) rfl rfl (Nat.le_of_ble_eq_true rfl) hl.1 ⟨Nat.le_of_ble_eq_true rfl, Nat.le_of_ble_eq_true rfl⟩ ⟨h621.1, h621.2⟩ d_Law_law_1046) hS (fun H locs hR hS => ?_)
    refine lv_icmp_eq (tgt := 1323) hx hb d_Law_law_1049 (by decide) (fun hc => ?_) (fun hc => ?_)
    · have hf := cd_t hc hf
      refine g_iinc (lv' := fun x633 => [(3, .int x633), (0, .ref b), (1, .ref (B + a1)), (2, .ref (B + a2))]) hf hx hb d_Law_law_1323 hl (k := 3) rfl (by decide) (by decide) (fun _ => rfl) (fun x633 ls hf hl => ?_)
      refine lv_goto (tgt := 18) hx hb d_Law_law_1326 (by decide) ?_
      exact ih18 a1 a2 x633 kc ks w630 _ _ _ hf (lv_sub hl [1, 2, 3, 0] rfl) hR hS
    have hf := cd_f hc hf
    refine lv_iconst (v := 0) hx hb d_Law_law_1052 (by decide) ?_
    cases hf
  have hf := cd_f hc617 hf
  by_cases hc634 : x18 = 30
  · refine lv_tableIn (off := 1021) (tgt := 1054) hx hb d_Law_law_33 (by rw [hc634]; decide) (by rw [hc634]; decide) (by rw [hc634]; rfl) (by decide) ?_
    have hf := cd_t hc634 hf
    refine lv_aload_n hx hb d_Law_law_1054 rfl (lv_at hl 1 rfl) ?_
    refine lv_aload_n hx hb d_Law_law_1055 rfl (lv_at hl 0 rfl) ?_
    refine lv_iload_n hx hb d_Law_law_1056 rfl (lv_at hl 3 rfl) ?_
    refine lv_iconst (v := 1) hx hb d_Law_law_1057 (by decide) ?_
    refine lv_iadd hx hb d_Law_law_1058 ?_
    refine g_nI hf (fun x635 hf => ?_)
    have ⟨h636, hf⟩ := gd_e hf
    refine va_sld hx hb hX hbl hbA hS h636 d_Law_law_1059 ?_
    refine g_nI hf (fun x637 hf => ?_)
    refine lv_aload_n hx hb d_Law_law_1060 rfl (lv_at hl 0 rfl) ?_
    refine lv_iload_n hx hb d_Law_law_1061 rfl (lv_at hl 3 rfl) ?_
    refine lv_iconst (v := 2) hx hb d_Law_law_1062 (by decide) ?_
    refine lv_iadd hx hb d_Law_law_1063 ?_
    refine g_nI hf (fun x638 hf => ?_)
    have ⟨h639, hf⟩ := gd_e hf
    refine va_sld hx hb hX hbl hbA hS h639 d_Law_law_1064 ?_
    refine g_nI hf (fun x640 hf => ?_)
    have ⟨h641, hf⟩ := gd_e hf
    have ⟨h645, hf⟩ := gd_e hf
    have ⟨x642, w643, h644, hf⟩ := kl_e hf
    refine g_ki (g_rV (As := [.int x637, .int x640]) (rest := []) hx hb hml hown hts hK hR hS (c_X_taken l D cA oc B N a1 x637 x640 w h644) I_X_taken m_942 m_944 (gRecv hK hR (ci := 11) rfl h645) rfl rfl (Nat.le_of_ble_eq_true rfl) hl.1 ⟨Nat.le_of_ble_eq_true rfl, Nat.le_of_ble_eq_true rfl⟩ ⟨h641.1, h641.2⟩ d_Law_law_1065) hS (fun H locs hR hS => ?_)
    refine lv_aload_n hx hb d_Law_law_1068 rfl (lv_at hl 2 rfl) ?_
    refine lv_aload_n hx hb d_Law_law_1069 rfl (lv_at hl 0 rfl) ?_
    refine lv_iload_n hx hb d_Law_law_1070 rfl (lv_at hl 3 rfl) ?_
    refine lv_iconst (v := 1) hx hb d_Law_law_1071 (by decide) ?_
    refine lv_iadd hx hb d_Law_law_1072 ?_
    refine g_nI hf (fun x646 hf => ?_)
    have ⟨h647, hf⟩ := gd_e hf
    refine va_sld hx hb hX hbl hbA hS h647 d_Law_law_1073 ?_
    refine g_nI hf (fun x648 hf => ?_)
    refine lv_aload_n hx hb d_Law_law_1074 rfl (lv_at hl 0 rfl) ?_
    refine lv_iload_n hx hb d_Law_law_1075 rfl (lv_at hl 3 rfl) ?_
    refine lv_iconst (v := 2) hx hb d_Law_law_1076 (by decide) ?_
    refine lv_iadd hx hb d_Law_law_1077 ?_
    refine g_nI hf (fun x649 hf => ?_)
    have ⟨h650, hf⟩ := gd_e hf
    refine va_sld hx hb hX hbl hbA hS h650 d_Law_law_1078 ?_
    refine g_nI hf (fun x651 hf => ?_)
    have ⟨h655, hf⟩ := gd_e hf
    have ⟨x652, w653, h654, hf⟩ := kl_e hf
    refine g_ki (g_rV (As := [.int x648, .int x651]) (rest := [.int x642]) hx hb hml hown hts hK hR hS (c_M_taken l D cA oc B N a2 x648 x651 w643 h654) I_M_taken m_1543 m_1545 (gRecv hK hR (ci := 12) rfl h655) rfl rfl (Nat.le_of_ble_eq_true rfl) hl.1 ⟨Nat.le_of_ble_eq_true rfl, Nat.le_of_ble_eq_true rfl⟩ ⟨h641.1, h641.2⟩ d_Law_law_1079) hS (fun H locs hR hS => ?_)
    refine lv_icmp_eq (tgt := 1323) hx hb d_Law_law_1082 (by decide) (fun hc => ?_) (fun hc => ?_)
    · have hf := cd_t hc hf
      refine g_iinc (lv' := fun x656 => [(3, .int x656), (0, .ref b), (1, .ref (B + a1)), (2, .ref (B + a2))]) hf hx hb d_Law_law_1323 hl (k := 3) rfl (by decide) (by decide) (fun _ => rfl) (fun x656 ls hf hl => ?_)
      refine lv_goto (tgt := 18) hx hb d_Law_law_1326 (by decide) ?_
      exact ih18 a1 a2 x656 kc ks w653 _ _ _ hf (lv_sub hl [1, 2, 3, 0] rfl) hR hS
    have hf := cd_f hc hf
    refine lv_iconst (v := 0) hx hb d_Law_law_1085 (by decide) ?_
    cases hf
  have hf := cd_f hc634 hf
  by_cases hc657 : x18 = 31
  · refine lv_tableIn (off := 1054) (tgt := 1087) hx hb d_Law_law_33 (by rw [hc657]; decide) (by rw [hc657]; decide) (by rw [hc657]; rfl) (by decide) ?_
    have hf := cd_t hc657 hf
    refine lv_aload_n hx hb d_Law_law_1087 rfl (lv_at hl 1 rfl) ?_
    refine lv_aload_n hx hb d_Law_law_1088 rfl (lv_at hl 0 rfl) ?_
    refine lv_iload_n hx hb d_Law_law_1089 rfl (lv_at hl 3 rfl) ?_
    refine lv_iconst (v := 1) hx hb d_Law_law_1090 (by decide) ?_
    refine lv_iadd hx hb d_Law_law_1091 ?_
    refine g_nI hf (fun x658 hf => ?_)
    have ⟨h659, hf⟩ := gd_e hf
    refine va_sld hx hb hX hbl hbA hS h659 d_Law_law_1092 ?_
    refine g_nI hf (fun x660 hf => ?_)
    have ⟨h661, hf⟩ := gd_e hf
    have ⟨h665, hf⟩ := gd_e hf
    have ⟨x662, w663, h664, hf⟩ := kl_e hf
    refine g_ki (g_rV (As := [.int x660]) (rest := []) hx hb hml hown hts hK hR hS (c_X_count l D cA oc B N a1 x660 w h664) I_X_count m_949 m_951 (gRecv hK hR (ci := 11) rfl h665) rfl rfl (Nat.le_of_ble_eq_true rfl) hl.1 ⟨Nat.le_of_ble_eq_true rfl, Nat.le_of_ble_eq_true rfl⟩ ⟨h661.1, h661.2⟩ d_Law_law_1093) hS (fun H locs hR hS => ?_)
    refine lv_aload_n hx hb d_Law_law_1096 rfl (lv_at hl 2 rfl) ?_
    refine lv_aload_n hx hb d_Law_law_1097 rfl (lv_at hl 0 rfl) ?_
    refine lv_iload_n hx hb d_Law_law_1098 rfl (lv_at hl 3 rfl) ?_
    refine lv_iconst (v := 1) hx hb d_Law_law_1099 (by decide) ?_
    refine lv_iadd hx hb d_Law_law_1100 ?_
    refine g_nI hf (fun x666 hf => ?_)
    have ⟨h667, hf⟩ := gd_e hf
    refine va_sld hx hb hX hbl hbA hS h667 d_Law_law_1101 ?_
    refine g_nI hf (fun x668 hf => ?_)
    have ⟨h672, hf⟩ := gd_e hf
    have ⟨x669, w670, h671, hf⟩ := kl_e hf
    refine g_ki (g_rV (As := [.int x668]) (rest := [.int x662]) hx hb hml hown hts hK hR hS (c_M_count l D cA oc B N a2 x668 w663 h671) I_M_count m_1547 m_1549 (gRecv hK hR (ci := 12) rfl h672) rfl rfl (Nat.le_of_ble_eq_true rfl) hl.1 ⟨Nat.le_of_ble_eq_true rfl, Nat.le_of_ble_eq_true rfl⟩ ⟨h661.1, h661.2⟩ d_Law_law_1102) hS (fun H locs hR hS => ?_)
    refine lv_icmp_eq (tgt := 1323) hx hb d_Law_law_1105 (by decide) (fun hc => ?_) (fun hc => ?_)
    · have hf := cd_t hc hf
      refine g_iinc (lv' := fun x673 => [(3, .int x673), (0, .ref b), (1, .ref (B + a1)), (2, .ref (B + a2))]) hf hx hb d_Law_law_1323 hl (k := 3) rfl (by decide) (by decide) (fun _ => rfl) (fun x673 ls hf hl => ?_)
      refine lv_goto (tgt := 18) hx hb d_Law_law_1326 (by decide) ?_
      exact ih18 a1 a2 x673 kc ks w670 _ _ _ hf (lv_sub hl [1, 2, 3, 0] rfl) hR hS
    have hf := cd_f hc hf
    refine lv_iconst (v := 0) hx hb d_Law_law_1108 (by decide) ?_
    cases hf
  have hf := cd_f hc657 hf
  by_cases hc674 : x18 = 32
  · refine lv_tableIn (off := 1077) (tgt := 1110) hx hb d_Law_law_33 (by rw [hc674]; decide) (by rw [hc674]; decide) (by rw [hc674]; rfl) (by decide) ?_
    have hf := cd_t hc674 hf
    refine lv_aload_n hx hb d_Law_law_1110 rfl (lv_at hl 1 rfl) ?_
    refine lv_aload_n hx hb d_Law_law_1111 rfl (lv_at hl 0 rfl) ?_
    refine lv_iload_n hx hb d_Law_law_1112 rfl (lv_at hl 3 rfl) ?_
    refine lv_iconst (v := 1) hx hb d_Law_law_1113 (by decide) ?_
    refine lv_iadd hx hb d_Law_law_1114 ?_
    refine g_nI hf (fun x675 hf => ?_)
    have ⟨h676, hf⟩ := gd_e hf
    refine va_sld hx hb hX hbl hbA hS h676 d_Law_law_1115 ?_
    refine g_nI hf (fun x677 hf => ?_)
    refine lv_aload_n hx hb d_Law_law_1116 rfl (lv_at hl 0 rfl) ?_
    refine lv_iload_n hx hb d_Law_law_1117 rfl (lv_at hl 3 rfl) ?_
    refine lv_iconst (v := 2) hx hb d_Law_law_1118 (by decide) ?_
    refine lv_iadd hx hb d_Law_law_1119 ?_
    refine g_nI hf (fun x678 hf => ?_)
    have ⟨h679, hf⟩ := gd_e hf
    refine va_sld hx hb hX hbl hbA hS h679 d_Law_law_1120 ?_
    refine g_nI hf (fun x680 hf => ?_)
    refine lv_aload_n hx hb d_Law_law_1121 rfl (lv_at hl 0 rfl) ?_
    refine lv_iload_n hx hb d_Law_law_1122 rfl (lv_at hl 3 rfl) ?_
    refine lv_iconst (v := 3) hx hb d_Law_law_1123 (by decide) ?_
    refine lv_iadd hx hb d_Law_law_1124 ?_
    refine g_nI hf (fun x681 hf => ?_)
    have ⟨h682, hf⟩ := gd_e hf
    refine va_sld hx hb hX hbl hbA hS h682 d_Law_law_1125 ?_
    refine g_nI hf (fun x683 hf => ?_)
    have ⟨h684, hf⟩ := gd_e hf
    have ⟨h688, hf⟩ := gd_e hf
    have ⟨x685, w686, h687, hf⟩ := kl_e hf
    refine g_ki (g_rV (As := [.int x677, .int x680, .int x683]) (rest := []) hx hb hml hown hts hK hR hS (c_X_tape l D cA oc B N a1 x677 x680 x683 w h687) I_X_tape m_953 m_955 (gRecv hK hR (ci := 11) rfl h688) rfl rfl (Nat.le_of_ble_eq_true rfl) hl.1 ⟨Nat.le_of_ble_eq_true rfl, Nat.le_of_ble_eq_true rfl⟩ ⟨h684.1, h684.2⟩ d_Law_law_1126) hS (fun H locs hR hS => ?_)
    refine lv_aload_n hx hb d_Law_law_1129 rfl (lv_at hl 2 rfl) ?_
    refine lv_aload_n hx hb d_Law_law_1130 rfl (lv_at hl 0 rfl) ?_
    refine lv_iload_n hx hb d_Law_law_1131 rfl (lv_at hl 3 rfl) ?_
    refine lv_iconst (v := 1) hx hb d_Law_law_1132 (by decide) ?_
    refine lv_iadd hx hb d_Law_law_1133 ?_
    refine g_nI hf (fun x689 hf => ?_)
    have ⟨h690, hf⟩ := gd_e hf
    refine va_sld hx hb hX hbl hbA hS h690 d_Law_law_1134 ?_
    refine g_nI hf (fun x691 hf => ?_)
    refine lv_aload_n hx hb d_Law_law_1135 rfl (lv_at hl 0 rfl) ?_
    refine lv_iload_n hx hb d_Law_law_1136 rfl (lv_at hl 3 rfl) ?_
    refine lv_iconst (v := 2) hx hb d_Law_law_1137 (by decide) ?_
    refine lv_iadd hx hb d_Law_law_1138 ?_
    refine g_nI hf (fun x692 hf => ?_)
    have ⟨h693, hf⟩ := gd_e hf
    refine va_sld hx hb hX hbl hbA hS h693 d_Law_law_1139 ?_
    refine g_nI hf (fun x694 hf => ?_)
    refine lv_aload_n hx hb d_Law_law_1140 rfl (lv_at hl 0 rfl) ?_
    refine lv_iload_n hx hb d_Law_law_1141 rfl (lv_at hl 3 rfl) ?_
    refine lv_iconst (v := 3) hx hb d_Law_law_1142 (by decide) ?_
    refine lv_iadd hx hb d_Law_law_1143 ?_
    refine g_nI hf (fun x695 hf => ?_)
    have ⟨h696, hf⟩ := gd_e hf
    refine va_sld hx hb hX hbl hbA hS h696 d_Law_law_1144 ?_
    refine g_nI hf (fun x697 hf => ?_)
    have ⟨h701, hf⟩ := gd_e hf
    have ⟨x698, w699, h700, hf⟩ := kl_e hf
    refine g_ki (g_rV (As := [.int x691, .int x694, .int x697]) (rest := [.int x685]) hx hb hml hown hts hK hR hS (c_M_tape l D cA oc B N a2 x691 x694 x697 w686 h700) I_M_tape m_1551 m_1553 (gRecv hK hR (ci := 12) rfl h701) rfl rfl (Nat.le_of_ble_eq_true rfl) hl.1 ⟨Nat.le_of_ble_eq_true rfl, Nat.le_of_ble_eq_true rfl⟩ ⟨h684.1, h684.2⟩ d_Law_law_1145) hS (fun H locs hR hS => ?_)
    refine lv_icmp_eq (tgt := 1323) hx hb d_Law_law_1148 (by decide) (fun hc => ?_) (fun hc => ?_)
    · have hf := cd_t hc hf
      refine g_iinc (lv' := fun x702 => [(3, .int x702), (0, .ref b), (1, .ref (B + a1)), (2, .ref (B + a2))]) hf hx hb d_Law_law_1323 hl (k := 3) rfl (by decide) (by decide) (fun _ => rfl) (fun x702 ls hf hl => ?_)
      refine lv_goto (tgt := 18) hx hb d_Law_law_1326 (by decide) ?_
      exact ih18 a1 a2 x702 kc ks w699 _ _ _ hf (lv_sub hl [1, 2, 3, 0] rfl) hR hS
    have hf := cd_f hc hf
    refine lv_iconst (v := 0) hx hb d_Law_law_1151 (by decide) ?_
    cases hf
  have hf := cd_f hc674 hf
  by_cases hc703 : x18 = 33
  · refine lv_tableIn (off := 1120) (tgt := 1153) hx hb d_Law_law_33 (by rw [hc703]; decide) (by rw [hc703]; decide) (by rw [hc703]; rfl) (by decide) ?_
    have hf := cd_t hc703 hf
    refine lv_aload_n hx hb d_Law_law_1153 rfl (lv_at hl 1 rfl) ?_
    refine lv_aload_n hx hb d_Law_law_1154 rfl (lv_at hl 0 rfl) ?_
    refine lv_iload_n hx hb d_Law_law_1155 rfl (lv_at hl 3 rfl) ?_
    refine lv_iconst (v := 1) hx hb d_Law_law_1156 (by decide) ?_
    refine lv_iadd hx hb d_Law_law_1157 ?_
    refine g_nI hf (fun x704 hf => ?_)
    have ⟨h705, hf⟩ := gd_e hf
    refine va_sld hx hb hX hbl hbA hS h705 d_Law_law_1158 ?_
    refine g_nI hf (fun x706 hf => ?_)
    refine lv_aload_n hx hb d_Law_law_1159 rfl (lv_at hl 0 rfl) ?_
    refine lv_iload_n hx hb d_Law_law_1160 rfl (lv_at hl 3 rfl) ?_
    refine lv_iconst (v := 2) hx hb d_Law_law_1161 (by decide) ?_
    refine lv_iadd hx hb d_Law_law_1162 ?_
    refine g_nI hf (fun x707 hf => ?_)
    have ⟨h708, hf⟩ := gd_e hf
    refine va_sld hx hb hX hbl hbA hS h708 d_Law_law_1163 ?_
    refine g_nI hf (fun x709 hf => ?_)
    refine lv_aload_n hx hb d_Law_law_1164 rfl (lv_at hl 0 rfl) ?_
    refine lv_iload_n hx hb d_Law_law_1165 rfl (lv_at hl 3 rfl) ?_
    refine lv_iconst (v := 3) hx hb d_Law_law_1166 (by decide) ?_
    refine lv_iadd hx hb d_Law_law_1167 ?_
    refine g_nI hf (fun x710 hf => ?_)
    have ⟨h711, hf⟩ := gd_e hf
    refine va_sld hx hb hX hbl hbA hS h711 d_Law_law_1168 ?_
    refine g_nI hf (fun x712 hf => ?_)
    refine lv_i2l hx hb d_Law_law_1169 rfl ?_
    refine g_nL hf (fun x713 hf => ?_)
    refine lv_bipush (v := 32) hx hb d_Law_law_1170 (by decide) ?_
    refine lv_lshl hx hb d_Law_law_1172 rfl ?_
    refine g_nL hf (fun x714 hf => ?_)
    refine lv_aload_n hx hb d_Law_law_1173 rfl (lv_at hl 0 rfl) ?_
    refine lv_iload_n hx hb d_Law_law_1174 rfl (lv_at hl 3 rfl) ?_
    refine lv_iconst (v := 4) hx hb d_Law_law_1175 (by decide) ?_
    refine lv_iadd hx hb d_Law_law_1176 ?_
    refine g_nI hf (fun x715 hf => ?_)
    have ⟨h716, hf⟩ := gd_e hf
    refine va_sld hx hb hX hbl hbA hS h716 d_Law_law_1177 ?_
    refine g_nI hf (fun x717 hf => ?_)
    refine lv_i2l hx hb d_Law_law_1178 rfl ?_
    refine g_nL hf (fun x718 hf => ?_)
    refine lv_ldc2 hx hb hown (hts _ m_1571) d_Law_law_1179 ?_
    refine lv_land hx hb d_Law_law_1182 ?_
    refine g_nL hf (fun x719 hf => ?_)
    refine lv_lor hx hb d_Law_law_1183 ?_
    refine g_nL hf (fun x720 hf => ?_)
    have ⟨h721, hf⟩ := gd_e hf
    have ⟨h725, hf⟩ := gd_e hf
    have ⟨x722, w723, h724, hf⟩ := kl_e hf
    refine g_ki (g_rV (As := [.int x706, .int x709, .long x720]) (rest := []) hx hb hml hown hts hK hR hS (c_X_item l D cA oc B N a1 x706 x709 x720 w h724) I_X_item m_957 m_959 (gRecv hK hR (ci := 11) rfl h725) rfl rfl (Nat.le_of_ble_eq_true rfl) hl.1 ⟨Nat.le_of_ble_eq_true rfl, Nat.le_of_ble_eq_true rfl⟩ ⟨h721.1, h721.2⟩ d_Law_law_1184) hS (fun H locs hR hS => ?_)
    refine lv_aload_n hx hb d_Law_law_1187 rfl (lv_at hl 2 rfl) ?_
    refine lv_aload_n hx hb d_Law_law_1188 rfl (lv_at hl 0 rfl) ?_
    refine lv_iload_n hx hb d_Law_law_1189 rfl (lv_at hl 3 rfl) ?_
    refine lv_iconst (v := 1) hx hb d_Law_law_1190 (by decide) ?_
    refine lv_iadd hx hb d_Law_law_1191 ?_
    refine g_nI hf (fun x726 hf => ?_)
    have ⟨h727, hf⟩ := gd_e hf
    refine va_sld hx hb hX hbl hbA hS h727 d_Law_law_1192 ?_
    refine g_nI hf (fun x728 hf => ?_)
    refine lv_aload_n hx hb d_Law_law_1193 rfl (lv_at hl 0 rfl) ?_
    refine lv_iload_n hx hb d_Law_law_1194 rfl (lv_at hl 3 rfl) ?_
    refine lv_iconst (v := 2) hx hb d_Law_law_1195 (by decide) ?_
    refine lv_iadd hx hb d_Law_law_1196 ?_
    refine g_nI hf (fun x729 hf => ?_)
    have ⟨h730, hf⟩ := gd_e hf
    refine va_sld hx hb hX hbl hbA hS h730 d_Law_law_1197 ?_
    refine g_nI hf (fun x731 hf => ?_)
    refine lv_aload_n hx hb d_Law_law_1198 rfl (lv_at hl 0 rfl) ?_
    refine lv_iload_n hx hb d_Law_law_1199 rfl (lv_at hl 3 rfl) ?_
    refine lv_iconst (v := 3) hx hb d_Law_law_1200 (by decide) ?_
    refine lv_iadd hx hb d_Law_law_1201 ?_
    refine g_nI hf (fun x732 hf => ?_)
    have ⟨h733, hf⟩ := gd_e hf
    refine va_sld hx hb hX hbl hbA hS h733 d_Law_law_1202 ?_
    refine g_nI hf (fun x734 hf => ?_)
    refine lv_i2l hx hb d_Law_law_1203 rfl ?_
    refine g_nL hf (fun x735 hf => ?_)
    refine lv_bipush (v := 32) hx hb d_Law_law_1204 (by decide) ?_
    refine lv_lshl hx hb d_Law_law_1206 rfl ?_
    refine g_nL hf (fun x736 hf => ?_)
    refine lv_aload_n hx hb d_Law_law_1207 rfl (lv_at hl 0 rfl) ?_
    refine lv_iload_n hx hb d_Law_law_1208 rfl (lv_at hl 3 rfl) ?_
    refine lv_iconst (v := 4) hx hb d_Law_law_1209 (by decide) ?_
    refine lv_iadd hx hb d_Law_law_1210 ?_
    refine g_nI hf (fun x737 hf => ?_)
    have ⟨h738, hf⟩ := gd_e hf
    refine va_sld hx hb hX hbl hbA hS h738 d_Law_law_1211 ?_
    refine g_nI hf (fun x739 hf => ?_)
    refine lv_i2l hx hb d_Law_law_1212 rfl ?_
    refine g_nL hf (fun x740 hf => ?_)
    refine lv_ldc2 hx hb hown (hts _ m_1571) d_Law_law_1213 ?_
    refine lv_land hx hb d_Law_law_1216 ?_
    refine g_nL hf (fun x741 hf => ?_)
    refine lv_lor hx hb d_Law_law_1217 ?_
    refine g_nL hf (fun x742 hf => ?_)
    have ⟨h746, hf⟩ := gd_e hf
    have ⟨x743, w744, h745, hf⟩ := kl_e hf
    refine g_ki (g_rV (As := [.int x728, .int x731, .long x742]) (rest := [.int x722]) hx hb hml hown hts hK hR hS (c_M_item l D cA oc B N a2 x728 x731 x742 w723 h745) I_M_item m_1555 m_1557 (gRecv hK hR (ci := 12) rfl h746) rfl rfl (Nat.le_of_ble_eq_true rfl) hl.1 ⟨Nat.le_of_ble_eq_true rfl, Nat.le_of_ble_eq_true rfl⟩ ⟨h721.1, h721.2⟩ d_Law_law_1218) hS (fun H locs hR hS => ?_)
    refine lv_icmp_eq (tgt := 1323) hx hb d_Law_law_1221 (by decide) (fun hc => ?_) (fun hc => ?_)
    · have hf := cd_t hc hf
      refine g_iinc (lv' := fun x747 => [(3, .int x747), (0, .ref b), (1, .ref (B + a1)), (2, .ref (B + a2))]) hf hx hb d_Law_law_1323 hl (k := 3) rfl (by decide) (by decide) (fun _ => rfl) (fun x747 ls hf hl => ?_)
      refine lv_goto (tgt := 18) hx hb d_Law_law_1326 (by decide) ?_
      exact ih18 a1 a2 x747 kc ks w744 _ _ _ hf (lv_sub hl [1, 2, 3, 0] rfl) hR hS
    have hf := cd_f hc hf
    refine lv_iconst (v := 0) hx hb d_Law_law_1224 (by decide) ?_
    cases hf
  have hf := cd_f hc703 hf
  by_cases hc748 : x18 = 34
  · refine lv_tableIn (off := 1193) (tgt := 1226) hx hb d_Law_law_33 (by rw [hc748]; decide) (by rw [hc748]; decide) (by rw [hc748]; rfl) (by decide) ?_
    have hf := cd_t hc748 hf
    refine lv_aload_n hx hb d_Law_law_1226 rfl (lv_at hl 1 rfl) ?_
    refine lv_aload_n hx hb d_Law_law_1227 rfl (lv_at hl 0 rfl) ?_
    refine lv_iload_n hx hb d_Law_law_1228 rfl (lv_at hl 3 rfl) ?_
    refine lv_iconst (v := 1) hx hb d_Law_law_1229 (by decide) ?_
    refine lv_iadd hx hb d_Law_law_1230 ?_
    refine g_nI hf (fun x749 hf => ?_)
    have ⟨h750, hf⟩ := gd_e hf
    refine va_sld hx hb hX hbl hbA hS h750 d_Law_law_1231 ?_
    refine g_nI hf (fun x751 hf => ?_)
    refine lv_aload_n hx hb d_Law_law_1232 rfl (lv_at hl 0 rfl) ?_
    refine lv_iload_n hx hb d_Law_law_1233 rfl (lv_at hl 3 rfl) ?_
    refine lv_iconst (v := 2) hx hb d_Law_law_1234 (by decide) ?_
    refine lv_iadd hx hb d_Law_law_1235 ?_
    refine g_nI hf (fun x752 hf => ?_)
    have ⟨h753, hf⟩ := gd_e hf
    refine va_sld hx hb hX hbl hbA hS h753 d_Law_law_1236 ?_
    refine g_nI hf (fun x754 hf => ?_)
    have ⟨h755, hf⟩ := gd_e hf
    have ⟨h759, hf⟩ := gd_e hf
    have ⟨x756, w757, h758, hf⟩ := kl_e hf
    refine g_kl (g_rV (As := [.int x751, .int x754]) (rest := []) hx hb hml hown hts hK hR hS (c_X_read l D cA oc B N a1 x751 x754 w h758) I_X_read m_964 m_966 (gRecv hK hR (ci := 11) rfl h759) rfl rfl (Nat.le_of_ble_eq_true rfl) hl.1 ⟨Nat.le_of_ble_eq_true rfl, Nat.le_of_ble_eq_true rfl⟩ ⟨h755.1, h755.2⟩ d_Law_law_1237) hS (fun H locs hR hS => ?_)
    refine lv_aload_n hx hb d_Law_law_1240 rfl (lv_at hl 2 rfl) ?_
    refine lv_aload_n hx hb d_Law_law_1241 rfl (lv_at hl 0 rfl) ?_
    refine lv_iload_n hx hb d_Law_law_1242 rfl (lv_at hl 3 rfl) ?_
    refine lv_iconst (v := 1) hx hb d_Law_law_1243 (by decide) ?_
    refine lv_iadd hx hb d_Law_law_1244 ?_
    refine g_nI hf (fun x760 hf => ?_)
    have ⟨h761, hf⟩ := gd_e hf
    refine va_sld hx hb hX hbl hbA hS h761 d_Law_law_1245 ?_
    refine g_nI hf (fun x762 hf => ?_)
    refine lv_aload_n hx hb d_Law_law_1246 rfl (lv_at hl 0 rfl) ?_
    refine lv_iload_n hx hb d_Law_law_1247 rfl (lv_at hl 3 rfl) ?_
    refine lv_iconst (v := 2) hx hb d_Law_law_1248 (by decide) ?_
    refine lv_iadd hx hb d_Law_law_1249 ?_
    refine g_nI hf (fun x763 hf => ?_)
    have ⟨h764, hf⟩ := gd_e hf
    refine va_sld hx hb hX hbl hbA hS h764 d_Law_law_1250 ?_
    refine g_nI hf (fun x765 hf => ?_)
    have ⟨h769, hf⟩ := gd_e hf
    have ⟨x766, w767, h768, hf⟩ := kl_e hf
    refine g_kl (g_rV (As := [.int x762, .int x765]) (rest := [.long x756]) hx hb hml hown hts hK hR hS (c_M_read l D cA oc B N a2 x762 x765 w757 h768) I_M_read m_1563 m_1565 (gRecv hK hR (ci := 12) rfl h769) rfl rfl (Nat.le_of_ble_eq_true rfl) hl.1 ⟨Nat.le_of_ble_eq_true rfl, Nat.le_of_ble_eq_true rfl⟩ ⟨h755.1, h755.2⟩ d_Law_law_1251) hS (fun H locs hR hS => ?_)
    refine W.lcmp hx hb d_Law_law_1254 ?_
    refine g_nI hf (fun x770 hf => ?_)
    refine lv_if_eq (tgt := 1323) hx hb d_Law_law_1255 (by decide) (fun hc => ?_) (fun hc => ?_)
    · have hf := cd_t hc hf
      refine g_iinc (lv' := fun x771 => [(3, .int x771), (0, .ref b), (1, .ref (B + a1)), (2, .ref (B + a2))]) hf hx hb d_Law_law_1323 hl (k := 3) rfl (by decide) (by decide) (fun _ => rfl) (fun x771 ls hf hl => ?_)
      refine lv_goto (tgt := 18) hx hb d_Law_law_1326 (by decide) ?_
      exact ih18 a1 a2 x771 kc ks w767 _ _ _ hf (lv_sub hl [1, 2, 3, 0] rfl) hR hS
    have hf := cd_f hc hf
    refine lv_iconst (v := 0) hx hb d_Law_law_1258 (by decide) ?_
    cases hf
  have hf := cd_f hc748 hf
  by_cases hc772 : x18 = 35
  · refine lv_tableIn (off := 1227) (tgt := 1260) hx hb d_Law_law_33 (by rw [hc772]; decide) (by rw [hc772]; decide) (by rw [hc772]; rfl) (by decide) ?_
    have hf := cd_t hc772 hf
    refine lv_aload_n hx hb d_Law_law_1260 rfl (lv_at hl 1 rfl) ?_
    refine lv_aload_n hx hb d_Law_law_1261 rfl (lv_at hl 0 rfl) ?_
    refine lv_iload_n hx hb d_Law_law_1262 rfl (lv_at hl 3 rfl) ?_
    refine lv_iconst (v := 1) hx hb d_Law_law_1263 (by decide) ?_
    refine lv_iadd hx hb d_Law_law_1264 ?_
    refine g_nI hf (fun x773 hf => ?_)
    have ⟨h774, hf⟩ := gd_e hf
    refine va_sld hx hb hX hbl hbA hS h774 d_Law_law_1265 ?_
    refine g_nI hf (fun x775 hf => ?_)
    refine lv_aload_n hx hb d_Law_law_1266 rfl (lv_at hl 0 rfl) ?_
    refine lv_iload_n hx hb d_Law_law_1267 rfl (lv_at hl 3 rfl) ?_
    refine lv_iconst (v := 2) hx hb d_Law_law_1268 (by decide) ?_
    refine lv_iadd hx hb d_Law_law_1269 ?_
    refine g_nI hf (fun x776 hf => ?_)
    have ⟨h777, hf⟩ := gd_e hf
    refine va_sld hx hb hX hbl hbA hS h777 d_Law_law_1270 ?_
    refine g_nI hf (fun x778 hf => ?_)
    refine lv_aload_n hx hb d_Law_law_1271 rfl (lv_at hl 0 rfl) ?_
    refine lv_iload_n hx hb d_Law_law_1272 rfl (lv_at hl 3 rfl) ?_
    refine lv_iconst (v := 3) hx hb d_Law_law_1273 (by decide) ?_
    refine lv_iadd hx hb d_Law_law_1274 ?_
    refine g_nI hf (fun x779 hf => ?_)
    have ⟨h780, hf⟩ := gd_e hf
    refine va_sld hx hb hX hbl hbA hS h780 d_Law_law_1275 ?_
    refine g_nI hf (fun x781 hf => ?_)
    refine lv_aload_n hx hb d_Law_law_1276 rfl (lv_at hl 0 rfl) ?_
    refine lv_iload_n hx hb d_Law_law_1277 rfl (lv_at hl 3 rfl) ?_
    refine lv_iconst (v := 4) hx hb d_Law_law_1278 (by decide) ?_
    refine lv_iadd hx hb d_Law_law_1279 ?_
    refine g_nI hf (fun x782 hf => ?_)
    have ⟨h783, hf⟩ := gd_e hf
    refine va_sld hx hb hX hbl hbA hS h783 d_Law_law_1280 ?_
    refine g_nI hf (fun x784 hf => ?_)
    refine lv_aload_n hx hb d_Law_law_1281 rfl (lv_at hl 0 rfl) ?_
    refine lv_iload_n hx hb d_Law_law_1282 rfl (lv_at hl 3 rfl) ?_
    refine lv_iconst (v := 5) hx hb d_Law_law_1283 (by decide) ?_
    refine lv_iadd hx hb d_Law_law_1284 ?_
    refine g_nI hf (fun x785 hf => ?_)
    have ⟨h786, hf⟩ := gd_e hf
    refine va_sld hx hb hX hbl hbA hS h786 d_Law_law_1285 ?_
    refine g_nI hf (fun x787 hf => ?_)
    have ⟨h788, hf⟩ := gd_e hf
    have ⟨h792, hf⟩ := gd_e hf
    have ⟨x789, w790, h791, hf⟩ := kl_e hf
    refine g_ki (g_rV (As := [.int x775, .int x778, .int x781, .int x784, .int x787]) (rest := []) hx hb hml hown hts hK hR hS (c_X_shift l D cA oc B N a1 x775 x778 x781 x784 x787 w h791) I_X_shift m_968 m_970 (gRecv hK hR (ci := 11) rfl h792) rfl rfl (Nat.le_of_ble_eq_true rfl) hl.1 ⟨Nat.le_of_ble_eq_true rfl, Nat.le_of_ble_eq_true rfl⟩ ⟨h788.1, h788.2⟩ d_Law_law_1286) hS (fun H locs hR hS => ?_)
    refine lv_aload_n hx hb d_Law_law_1289 rfl (lv_at hl 2 rfl) ?_
    refine lv_aload_n hx hb d_Law_law_1290 rfl (lv_at hl 0 rfl) ?_
    refine lv_iload_n hx hb d_Law_law_1291 rfl (lv_at hl 3 rfl) ?_
    refine lv_iconst (v := 1) hx hb d_Law_law_1292 (by decide) ?_
    refine lv_iadd hx hb d_Law_law_1293 ?_
    refine g_nI hf (fun x793 hf => ?_)
    have ⟨h794, hf⟩ := gd_e hf
    refine va_sld hx hb hX hbl hbA hS h794 d_Law_law_1294 ?_
    refine g_nI hf (fun x795 hf => ?_)
    refine lv_aload_n hx hb d_Law_law_1295 rfl (lv_at hl 0 rfl) ?_
    refine lv_iload_n hx hb d_Law_law_1296 rfl (lv_at hl 3 rfl) ?_
    refine lv_iconst (v := 2) hx hb d_Law_law_1297 (by decide) ?_
    refine lv_iadd hx hb d_Law_law_1298 ?_
    refine g_nI hf (fun x796 hf => ?_)
    have ⟨h797, hf⟩ := gd_e hf
    refine va_sld hx hb hX hbl hbA hS h797 d_Law_law_1299 ?_
    refine g_nI hf (fun x798 hf => ?_)
    refine lv_aload_n hx hb d_Law_law_1300 rfl (lv_at hl 0 rfl) ?_
    refine lv_iload_n hx hb d_Law_law_1301 rfl (lv_at hl 3 rfl) ?_
    refine lv_iconst (v := 3) hx hb d_Law_law_1302 (by decide) ?_
    refine lv_iadd hx hb d_Law_law_1303 ?_
    refine g_nI hf (fun x799 hf => ?_)
    have ⟨h800, hf⟩ := gd_e hf
    refine va_sld hx hb hX hbl hbA hS h800 d_Law_law_1304 ?_
    refine g_nI hf (fun x801 hf => ?_)
    refine lv_aload_n hx hb d_Law_law_1305 rfl (lv_at hl 0 rfl) ?_
    refine lv_iload_n hx hb d_Law_law_1306 rfl (lv_at hl 3 rfl) ?_
    refine lv_iconst (v := 4) hx hb d_Law_law_1307 (by decide) ?_
    refine lv_iadd hx hb d_Law_law_1308 ?_
    refine g_nI hf (fun x802 hf => ?_)
    have ⟨h803, hf⟩ := gd_e hf
    refine va_sld hx hb hX hbl hbA hS h803 d_Law_law_1309 ?_
    refine g_nI hf (fun x804 hf => ?_)
    refine lv_aload_n hx hb d_Law_law_1310 rfl (lv_at hl 0 rfl) ?_
    refine lv_iload_n hx hb d_Law_law_1311 rfl (lv_at hl 3 rfl) ?_
    refine lv_iconst (v := 5) hx hb d_Law_law_1312 (by decide) ?_
    refine lv_iadd hx hb d_Law_law_1313 ?_
    refine g_nI hf (fun x805 hf => ?_)
    have ⟨h806, hf⟩ := gd_e hf
    refine va_sld hx hb hX hbl hbA hS h806 d_Law_law_1314 ?_
    refine g_nI hf (fun x807 hf => ?_)
    have ⟨h811, hf⟩ := gd_e hf
    have ⟨x808, w809, h810, hf⟩ := kl_e hf
    refine g_ki (g_rV (As := [.int x795, .int x798, .int x801, .int x804, .int x807]) (rest := [.int x789]) hx hb hml hown hts hK hR hS (c_M_shift l D cA oc B N a2 x795 x798 x801 x804 x807 w790 h810) I_M_shift m_1567 m_1569 (gRecv hK hR (ci := 12) rfl h811) rfl rfl (Nat.le_of_ble_eq_true rfl) hl.1 ⟨Nat.le_of_ble_eq_true rfl, Nat.le_of_ble_eq_true rfl⟩ ⟨h788.1, h788.2⟩ d_Law_law_1315) hS (fun H locs hR hS => ?_)
    refine lv_icmp_eq (tgt := 1323) hx hb d_Law_law_1318 (by decide) (fun hc => ?_) (fun hc => ?_)
    · have hf := cd_t hc hf
      refine g_iinc (lv' := fun x812 => [(3, .int x812), (0, .ref b), (1, .ref (B + a1)), (2, .ref (B + a2))]) hf hx hb d_Law_law_1323 hl (k := 3) rfl (by decide) (by decide) (fun _ => rfl) (fun x812 ls hf hl => ?_)
      refine lv_goto (tgt := 18) hx hb d_Law_law_1326 (by decide) ?_
      exact ih18 a1 a2 x812 kc ks w809 _ _ _ hf (lv_sub hl [1, 2, 3, 0] rfl) hR hS
    have hf := cd_f hc hf
    refine lv_iconst (v := 0) hx hb d_Law_law_1321 (by decide) ?_
    cases hf
  have hf := cd_f hc772 hf
  have hout : x18.toInt < 0 ∨ 35 < x18.toInt := by
    have := lv_neT (a := 0) hc19 rfl
    have := lv_neT (a := 1) hc43 rfl
    have := lv_neT (a := 2) hc66 rfl
    have := lv_neT (a := 3) hc95 rfl
    have := lv_neT (a := 4) hc118 rfl
    have := lv_neT (a := 5) hc147 rfl
    have := lv_neT (a := 6) hc164 rfl
    have := lv_neT (a := 7) hc175 rfl
    have := lv_neT (a := 8) hc192 rfl
    have := lv_neT (a := 9) hc215 rfl
    have := lv_neT (a := 10) hc244 rfl
    have := lv_neT (a := 11) hc273 rfl
    have := lv_neT (a := 12) hc290 rfl
    have := lv_neT (a := 13) hc307 rfl
    have := lv_neT (a := 14) hc330 rfl
    have := lv_neT (a := 15) hc341 rfl
    have := lv_neT (a := 16) hc358 rfl
    have := lv_neT (a := 17) hc375 rfl
    have := lv_neT (a := 18) hc404 rfl
    have := lv_neT (a := 19) hc427 rfl
    have := lv_neT (a := 20) hc450 rfl
    have := lv_neT (a := 21) hc461 rfl
    have := lv_neT (a := 22) hc485 rfl
    have := lv_neT (a := 23) hc509 rfl
    have := lv_neT (a := 24) hc532 rfl
    have := lv_neT (a := 25) hc543 rfl
    have := lv_neT (a := 26) hc566 rfl
    have := lv_neT (a := 27) hc577 rfl
    have := lv_neT (a := 28) hc588 rfl
    have := lv_neT (a := 29) hc617 rfl
    have := lv_neT (a := 30) hc634 rfl
    have := lv_neT (a := 31) hc657 rfl
    have := lv_neT (a := 32) hc674 rfl
    have := lv_neT (a := 33) hc703 rfl
    have := lv_neT (a := 34) hc748 rfl
    have := lv_neT (a := 35) hc772 rfl
    omega
  refine lv_tableOut (tgt := 1323) hx hb d_Law_law_33 hout (by decide) ?_
  refine g_iinc (lv' := fun x813 => [(3, .int x813), (0, .ref b), (1, .ref (B + a1)), (2, .ref (B + a2))]) hf hx hb d_Law_law_1323 hl (k := 3) rfl (by decide) (by decide) (fun _ => rfl) (fun x813 ls hf hl => ?_)
  refine lv_goto (tgt := 18) hx hb d_Law_law_1326 (by decide) ?_
  exact ih18 a1 a2 x813 kc ks w _ _ _ hf (lv_sub hl [1, 2, 3, 0] rfl) hR hS
theorem c_Law_law_l18 {r : Int32} {wz : gW} (C : gLw p s m meth c b L xs D cA oc B) (a1 : Nat) (a2 : Nat) (a3 : Int32) (kc : Nat) (ks : Nat) (w : gW) {ls : Array Slot} {H : Heap} {locs : List Loc} (hl : lv_has ls 4 [(0, .ref b), (1, .ref (B + a1)), (2, .ref (B + a2)), (3, .int a3)]) (hf : f_Law_law_l18 N L xs a1 a2 a3 kc ks w = some (r, wz)) (hR : gRep D cA B w H) (hS : va_S (gA B) s.heap H locs) : W p l e room_1 s m #[Value.ref b] below meth c H locs kc ks (lw_Z below #[Value.ref b] s) (F0 m 18 ls []) := by
  unfold f_Law_law_l18 at hf
  suffices hh : ∀ n : Nat, ∀ (a1 : Nat) (a2 : Nat) (a3 : Int32) (kc : Nat) (ks : Nat) (w : gW) (ls : Array Slot) (H : Heap) (locs : List Loc), itr (fun rec (q : Nat × Nat × Int32 × Nat × Nat × gW) => f_Law_law_b18 N L xs rec q.1 q.2.1 q.2.2.1 q.2.2.2.1 q.2.2.2.2.1 q.2.2.2.2.2) n (a1, a2, a3, kc, ks, w) = some (r, wz) → lv_has ls 4 [(0, .ref b), (1, .ref (B + a1)), (2, .ref (B + a2)), (3, .int a3)] → gRep D cA B w H → va_S (gA B) s.heap H locs → W p l e room_1 s m #[Value.ref b] below meth c H locs kc ks (lw_Z below #[Value.ref b] s) (F0 m 18 ls []) from hh N a1 a2 a3 kc ks w ls H locs hf hl hR hS
  intro n
  induction n with
  | zero => intro a1 a2 a3 kc ks w ls H locs hf; cases hf
  | succ n ihn =>
    intro a1 a2 a3 kc ks w ls H locs hf hl hR hS
    exact c_Law_law_b18 (N := N) (L := L) (xs := xs) ihn C a1 a2 a3 kc ks w hl ((itr_s _ _ _).symm.trans hf) hR hS
set_option maxRecDepth 20000 in
theorem c_Law_law_b0 {r : Int32} {wz : gW} (C : gLw p s m meth c b L xs D cA oc B) (w : gW) {ls : Array Slot} {H : Heap} {locs : List Loc} (hl : lv_has ls 4 [(0, .ref b)]) (hf : f_Law_law_b0 N L xs w = some (r, wz)) (hR : gRep D cA B w H) (hS : va_S (gA B) s.heap H locs) : W p l e room_1 s m #[Value.ref b] below meth c H locs 0 0 (lw_Z below #[Value.ref b] s) (F0 m 0 ls []) := by
  obtain ⟨hx, hb, hml, hown, hts, hr, hlocks, hK, hBe, hX, hbl, hbA⟩ := id C
  unfold f_Law_law_b0 at hf
  refine g_new (ci := 11) hx hb hts hown hK hR hS rfl i_X tk_X (by decide +kernel) m_22 m_23 m_1 (Nat.le_of_ble_eq_true rfl) (Nat.le_of_ble_eq_true rfl) d_Law_law_0 (fun H hR hS => ?_)
  refine g_nA hf (fun p1 hf => ?_)
  refine g_nW hf hR (fun w2 hf hR => ?_)
  refine lv_dup hx hb d_Law_law_3 rfl ?_
  have ⟨h6, hf⟩ := gd_e hf
  have ⟨x3, w4, h5, hf⟩ := kl_e hf
  refine g_kv (g_rI (As := []) (rest := [.ref (B + p1)]) hx hb hml hown hts hK hR hS (c_X_init l D cA oc B N p1 w2 h5) I_X_init rfl m_24 rfl rfl (Nat.le_of_ble_eq_true rfl) hl.1 ⟨Nat.le_of_ble_eq_true rfl, Nat.le_of_ble_eq_true rfl⟩ ⟨Nat.le_of_ble_eq_true rfl, Nat.le_of_ble_eq_true rfl⟩ d_Law_law_4) hS (fun H locs hR hS => ?_)
  refine lv_astore_n (lv' := [(1, .ref (B + p1)), (0, .ref b)]) hx hb d_Law_law_7 rfl hl (by decide) rfl (fun ls hl => ?_)
  refine g_new (ci := 12) hx hb hts hown hK hR hS rfl i_M tk_M (by decide +kernel) m_976 m_977 m_6 (Nat.le_of_ble_eq_true rfl) (Nat.le_of_ble_eq_true rfl) d_Law_law_8 (fun H hR hS => ?_)
  refine g_nA hf (fun p7 hf => ?_)
  refine g_nW hf hR (fun w8 hf hR => ?_)
  refine lv_dup hx hb d_Law_law_11 rfl ?_
  have ⟨h12, hf⟩ := gd_e hf
  have ⟨x9, w10, h11, hf⟩ := kl_e hf
  refine g_kv (g_rI (As := []) (rest := [.ref (B + p7)]) hx hb hml hown hts hK hR hS (c_M_init l D cA oc B N p7 w8 h11) I_M_init rfl m_978 rfl rfl (Nat.le_of_ble_eq_true rfl) hl.1 ⟨Nat.le_of_ble_eq_true rfl, Nat.le_of_ble_eq_true rfl⟩ ⟨Nat.le_of_ble_eq_true rfl, Nat.le_of_ble_eq_true rfl⟩ d_Law_law_12) hS (fun H locs hR hS => ?_)
  refine lv_astore_n (lv' := [(2, .ref (B + p7)), (1, .ref (B + p1)), (0, .ref b)]) hx hb d_Law_law_15 rfl hl (by decide) rfl (fun ls hl => ?_)
  refine lv_iconst (v := 0) hx hb d_Law_law_16 (by decide) ?_
  refine lv_istore_n (lv' := [(3, .int 0), (2, .ref (B + p7)), (1, .ref (B + p1)), (0, .ref b)]) hx hb d_Law_law_17 rfl hl (by decide) rfl (fun ls hl => ?_)
  exact c_Law_law_l18 C p1 p7 0 182 4022 w10 (lv_sub hl [3, 2, 1, 0] rfl) hf hR hS
