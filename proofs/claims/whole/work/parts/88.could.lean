/-! ===== the model: could one pay; what is asked changes nothing =====  -/
abbrev RT : List Nat := [137, 139, 140, 66, 67, 68, 69, 70, 71, 8, 92, 100, 108, 116, 124, 132, 150, 151, 152, 153, 154, 155, 156, 157, 158, 159, 160]
abbrev RU : List Nat := [137, 139, 140, 66, 67, 68, 69, 70, 71, 8, 92, 100, 108, 116, 124, 132, 150, 151, 152, 153, 154, 155, 156, 157, 158, 159, 160, 47, 48, 49, 50, 51, 52, 53, 54, 55, 56, 57, 58, 59, 60, 61, 62, 63, 64, 65]
def eq3 (w u : gW) : Prop := (∀ k, gI u 139 k = gI w 139 k) ∧ (∀ k, gI u 140 k = gI w 140 k) ∧ ∀ k, gI u 137 k = gI w 137 k
def RM (w u : gW) : Prop := Fr RT SC w u ∧ eq3 w u
def RF (w u : gW) : Prop := Fr RU SC w u ∧ eq3 w u
section RO
variable {N c tp b p W : Nat} {w u z : gW} {kd v ob : Nat → Nat} {ro : Nat → Nat → Int} {L : List Cl} {A : PS} {price : Int} {y : List Nat} {a1 a2 : Int32}
theorem eq3.rf : eq3 w w := ⟨fun _ => rfl, fun _ => rfl, fun _ => rfl⟩
theorem eq3.tr (h : eq3 w u) (g : eq3 u z) : eq3 w z := ⟨fun k => (g.1 k).trans (h.1 k), fun k => (g.2.1 k).trans (h.2.1 k), fun k => (g.2.2 k).trans (h.2.2 k)⟩
theorem RM.rf : RM w w := ⟨Fr.rf, eq3.rf⟩
theorem RF.rf : RF w w := ⟨Fr.rf, eq3.rf⟩
theorem RM.tr (h : RM w u) (g : RM u z) : RM w z := ⟨h.1.tr g.1, h.2.tr g.2⟩
theorem RF.tr (h : RF w u) (g : RF u z) : RF w z := ⟨h.1.tr g.1, h.2.tr g.2⟩
theorem RM.rF (h : RM w u) : RF w u := ⟨h.1.up (by simp) (by simp), h.2⟩
theorem scRM (f : Fr ST SC w u) : RM w u := ⟨f.up (by simp) (by simp), fun _ => f.i ⟨by decide, by decide⟩, fun _ => f.i ⟨by decide, by decide⟩, fun _ => f.i ⟨by decide, by decide⟩⟩
theorem CA.rm (h : CA w W c tp kd v ob ro L A) (f : RM w u) : CA u W c tp kd v ob ro L A := by
  have h' := h
  obtain ⟨-, hW, hT, -⟩ := h'
  have k : ∀ a, nsc a → a ≠ 137 → a ≠ 139 → a ≠ 140 → oP RT SC a := fun a ha h1 h2 h3 => by
    refine ⟨fun z => ?_, ha.o.2⟩
    have := ha.o.1
    simp only [List.mem_cons, List.not_mem_nil, or_false] at z this
    omega
  refine h.fr f.1 (fun d hd => k _ (nsc_W hW d hd) ?_ ?_ ?_) (fun d hd => k _ (nsc_T hT d hd) ?_ ?_ ?_) (fun a ha => k _ (nsc_o ha) (by omega) (by omega) (by omega)) <;> first | (rcases hW with rfl | rfl <;> omega) | (rcases hT with rfl | ⟨i, hi, rfl⟩ <;> omega)
theorem MA.rm (h : MA w c b kd v ro L A) (f : RM w u) : MA u c b kd v ro L A := by
  obtain ⟨f, g1, g2, g3⟩ := f
  obtain ⟨h1, h2, h3, h4, h5, h8, h9, h10, h11, h12⟩ := h
  have n : ∀ a, 134 ≤ a → a ≤ 149 → a ≠ 137 → a ≠ 139 → a ≠ 140 → oP RT SC a := fun a h1 h2 h3 h4 h5 => ⟨by simp; omega, (nsc_m ⟨h1, h2⟩).o.2⟩
  refine ⟨f.lay h1, h2.fr f (fun d h h' => n d (by omega) (by omega) (by omega) (by omega) (by omega)) (by decide), h3.c f (n _ (by omega) (by omega) (by omega) (by omega) (by omega)), h4, fun p hp => ?_, fun p s hp hs => ?_, fun s hs => ?_, fun p hp => ?_, h11, fun p k hp hk => ?_⟩
  · rw [f.i (n _ (by omega) (by omega) (by omega) (by omega) (by omega)), f.i (n _ (by omega) (by omega) (by omega) (by omega) (by omega))]; exact h5 p hp
  · rw [g1]; exact h8 p s hp hs
  · rw [g2]; exact h9 s hs
  · rw [g3]; exact h10 p hp
  · rw [f.i (n _ (by omega) (by omega) (by omega) (by omega) (by omega))]; exact h12 p k hp hk
theorem Sim.rf (h : Sim w) (f : RF w z) : Sim z := by
  obtain ⟨f, g1, g2, g3⟩ := f
  have e0 : gI z 133 0 = gI w 133 0 := f.c ⟨by decide, by decide⟩
  have n12 : ∀ p, p < 4 → oP RU SC (12 + p) := fun p hp => ⟨by simp; omega, by simp; omega⟩
  refine h.u_rdo f (fun p k hp hk => ?_) (fun p k hp hk hl => ?_) (fun j hj => ?_) (fun p hp => ?_) (fun p k hp hk hl => ?_) (fun p hp => ?_) (fun s hs => ?_) (fun s hs => ?_)
  · rw [g1, f.i (n12 p hp)]; exact h.2.1.apur p k hp hk
  · rw [e0] at hl; rw [g1]; exact h.2.1.apurz p k hp hk hl
  · rw [g1]; exact h.2.1.apurr j hj
  · rw [g3, f.i ⟨by decide, by decide⟩]; exact h.2.1.apad p hp
  · rw [e0] at hl; rw [g3]; exact h.2.1.apadz p k hp hk hl
  · rw [g3]; exact h.2.1.apadr p hp
  · rw [g2, f.i ⟨by decide, by decide⟩]; exact h.2.1.atil s hs
  · rw [g2]; exact h.2.1.atilr s hs
/-- after saving, paying, putting back all is as it was -/
theorem back_rm {u1 u2 u3 u4 : gW} (f1 : Fr [157, 158, 159] [] w u1) (sv : SV w u1) (g : GF u1 u2) (f3 : Fr [150] [(133, 38), (133, 39)] u2 u3) (f4 : Fr [137, 139, 140] [] u3 u4) (e4 : (∀ k, k < 24 → gI u4 139 k = gI u3 157 k) ∧ (∀ k, k < 6 → gI u4 140 k = gI u3 158 k) ∧ ∀ k, k < 4 → gI u4 137 k = gI u3 159 k) (e5 : (∀ k, 24 ≤ k → gI u4 139 k = gI u3 139 k) ∧ (∀ k, 6 ≤ k → gI u4 140 k = gI u3 140 k) ∧ ∀ k, 4 ≤ k → gI u4 137 k = gI u3 137 k) : RM w u4 := by
  have k : ∀ d, d = 157 ∨ d = 158 ∨ d = 159 → ∀ j, gI u3 d j = gI u1 d j := fun d hd j => by
    rw [f3.i ⟨by simp; omega, by simp; omega⟩, g.1.i ⟨by simp; omega, by simp; omega⟩]
  have m : ∀ d, d = 137 ∨ d = 139 ∨ d = 140 → ∀ j, gI u3 d j = gI u2 d j ∧ gI u1 d j = gI w d j := fun d hd j => ⟨f3.i ⟨by simp; omega, by simp; omega⟩, f1.i ⟨by simp; omega, by simp⟩⟩
  refine ⟨(((f1.up (by simp) (by simp)).tr (g.1.up (by simp) (by simp))).tr (f3.up (by simp) (by simp))).tr (f4.up (by simp) (by simp)), fun j => ?_, fun j => ?_, fun j => ?_⟩
  · by_cases hj : j < 24
    · rw [e4.1 j hj, k 157 (by omega), sv.1 j hj]
    · rw [e5.1 j (by omega), (m 139 (by omega) j).1, g.2.1 j (by omega), (m 139 (by omega) j).2]
  · by_cases hj : j < 6
    · rw [e4.2.1 j hj, k 158 (by omega), sv.2.1 j hj]
    · rw [e5.2.1 j (by omega), (m 140 (by omega) j).1, g.2.2.1 j (by omega), (m 140 (by omega) j).2]
  · by_cases hj : j < 4
    · rw [e4.2.2 j hj, k 159 (by omega), sv.2.2 j hj]
    · rw [e5.2.2 j (by omega), (m 137 (by omega) j).1, g.2.2.2 j (by omega), (m 137 (by omega) j).2]
def cnS (f : Nat → Int) : Int := f 0 + f 1 + f 2 + f 3 + f 4 + f 5
theorem sv_rf {u1 u2 : gW} : Fr [] [] u1 u1 := Fr.rf
/-- weight and coins laid, then all put back: the end of could, of goesRow -/
theorem c_layBack {ρ : Type} {u1 u2 : gW} {Q : ρ → gW → Prop} {k : gW → Option (ρ × gW)} (hN : 1000 ≤ N) (f1 : Fr [157, 158, 159] [] w u1) (sv : SV w u1) (g : GF u1 u2) (h : MA u2 c b kd v ro L A) (hp : p < c) (h1 : a1.toInt = (p : Int))
    (hk : ∀ z, RM w z → Fr [137, 139, 140, 150] [(133, 38), (133, 39)] u2 z → (gI z 133 38).toInt = wgt L (A.1 p) → (gI z 133 39).toInt = cnS (A.1 p) → ok (k z) Q) :
    ok (gd ((sh u2 133).1 = 12) (kl (f_M_weight N 133 a1 u2) fun x9 w10 => gd ((sh w10 133).1 = 12) (bd (sI w10 133 38 x9) fun w14 => gd ((sh w14 133).1 = 12) (kl (f_M_coins N 133 a1 w14) fun x15 w16 => gd ((sh w16 133).1 = 12) (bd (sI w16 133 39 x15) fun w20 => gd ((sh w20 133).1 = 12) (kl (f_M_putBack N 133 w20) fun _ w22 => k w22)))))) Q := by
  have hm := lay_M h.1
  simp only [ok_gd, ok_bd, ok_rr1, ok_nr0, ok_nr1, ok_ret, true_and, and_true, not_false_eq_true, sh_sI, sh_sR, sh_sL, gR_sI, gR_sL, gI_sR, gI_sL, sh_cI, gR_cI, hm]
  refine ok_call (c_Mweight hN (h.mp hp) h1) ?_
  rintro r3 u3 ⟨f3, hr3⟩
  have hm := lay_M (f3.lay h.1)
  simp only [ok_gd, ok_bd, ok_rr1, ok_nr0, ok_nr1, ok_ret, true_and, and_true, not_false_eq_true, sh_sI, sh_sR, sh_sL, gR_sI, gR_sL, gI_sR, gI_sL, sh_cI, gR_cI, hm]
  have f3' : Fr [150] [(133, 38), (133, 39)] u2 (sI u3 133 38 r3) := Fr_sI (f3.up (by simp) (by simp)) (by simp)
  have hma3 : MA (sI u3 133 38 r3) c b kd v ro L A := h.fr f3' (fun a h1 h2 => ⟨by simp; omega, by simp; omega⟩) ⟨by decide, by simp⟩
  refine ok_call (c_Mcoins hN (hma3.mp hp) h1) ?_
  rintro r4 u4 ⟨rfl, hr4⟩
  have hm := lay_M hma3.1
  simp only [ok_gd, ok_bd, ok_rr1, ok_nr0, ok_nr1, ok_ret, true_and, and_true, not_false_eq_true, sh_sI, sh_sR, sh_sL, gR_sI, gR_sL, gI_sR, gI_sL, sh_cI, gR_cI, hm]
  have f4' : Fr [150] [(133, 38), (133, 39)] u2 (sI (sI u3 133 38 r3) 133 39 r4) := Fr_sI f3' (by simp)
  refine ok_call (c_putBack hN (f4'.lay h.1)) ?_
  rintro - u5 ⟨f5, e4, e5⟩
  refine hk u5 (back_rm f1 sv g f4' f5 e4 e5) ((f4'.up (by simp) (by simp)).tr (f5.up (by simp) (by simp))) ?_ ?_
  · rw [f5.i ⟨by decide, by simp⟩, gI_nk (by decide), gI_eq]; exact hr3
  · rw [f5.i ⟨by decide, by simp⟩, gI_eq]; exact hr4
theorem MA.could (hN : 1000 ≤ N) (h : MA w c b kd v ro L A) (hp : p < c) (h1 : a1.toInt = (p : Int)) (h3 : a2.toInt = price) (hpr : 0 ≤ price ∧ price ≤ 500) :
    ok (f_M_could N 133 a1 a2 w) (fun r u => RM w u ∧ ((r.toInt = 0 ∧ cS L kd v ro A p price = none) ∨ (r.toInt = 1 ∧ ∃ y, cS L kd v ro A p price = some y ∧ hasM u A price y ∧ (gI u 133 38).toInt = wgt L ((nS A p price y).1 p) ∧ (gI u 133 39).toInt = cnS ((nS A p price y).1 p)))) := by
  have hm := lay_M h.1
  unfold f_M_could f_M_could_b0
  simp only [ok_gd, ok_bd, ok_rr1, ok_nr0, ok_nr1, ok_ret, true_and, and_true, not_false_eq_true, sh_sI, sh_sR, sh_sL, gR_sI, gR_sL, gI_sR, gI_sL, sh_cI, gR_cI, hm]
  refine ok_call (c_save hN h.1) ?_
  rintro - u1 ⟨f1, sv⟩
  have hma1 : MA u1 c b kd v ro L A := h.sc (f1.up (by simp) (by simp))
  have hm := lay_M hma1.1
  rw [ok_gd]
  refine ⟨by rw [hm.1], ?_⟩
  refine ok_call (hma1.goes hN hp h1 h3 hpr) ?_
  rintro r2 u2 ⟨g, hr2⟩
  rcases hr2 with ⟨hr2, hcn, hma2⟩ | ⟨hr2, y, hcn, hm2, hma2⟩
  · refine c_layBack hN f1 sv g hma2 hp h1 (fun z hz _ _ _ => ?_)
    refine ok_gdt (Or.inl (ti_eq.mpr (by rw [hr2, ti_0]))) (ok_ret.mpr ⟨hz, Or.inl ⟨hr2, hcn⟩⟩)
  · refine c_layBack hN f1 sv g hma2 hp h1 (fun z hz hf h38 h39 => ?_)
    refine ok_gdt (Or.inr (ti_eq.mpr (by rw [hr2, ti_1]))) (ok_ret.mpr ⟨hz, Or.inr ⟨hr2, y, hcn, hasM.fr hm2 (hf.c ⟨by decide, by simp⟩) (fun k => hf.i ⟨by decide, by simp⟩) (fun k => hf.i ⟨by decide, by simp⟩), h38, h39⟩⟩)
/-- what the class finds behind a payment -/
theorem CA.behindW (hN : 1000 ≤ N) (h : CA w W c tp kd v ob ro L A) (hp : p < c) (h1 : 0 ≤ price) (hy : cS L kd v ro A p price = some y) (hh : hasC w W (ob p) A price y) :
    ok (f_Pm_weightBehind N 66 w) (fun r u => u = w ∧ r.toInt = wgt L ((nS A p price y).1 p)) := by
  have h' := h
  obtain ⟨hL, hW, hT, h4, h5, h6, h7, h8, h9, h10, h11, h12⟩ := h'
  obtain ⟨n1, n2, n3, n4, n5, n6⟩ := nS_rg h11 h6.2.2.1 h6.2.2.2.1 (by omega) hy h1
  refine (c_weightBehind hN (h.cp hp) hh.1 hh.2.1 n2 (fun s hs => ⟨hh.2.2 s hs, (n6 s hs).1, by have := (n6 s hs).2; omega⟩) n4).mono ?_
  rintro r u ⟨rfl, hr⟩
  refine ⟨rfl, ?_⟩
  rw [hr]
  simp only [nS, if_true]; rfl
theorem CA.behindC (hN : 1000 ≤ N) (h : CA w W c tp kd v ob ro L A) (hp : p < c) (h1 : 0 ≤ price) (hy : cS L kd v ro A p price = some y) (hh : hasC w W (ob p) A price y) :
    ok (f_Pm_coinsBehind N 66 w) (fun r u => u = w ∧ r.toInt = cnS ((nS A p price y).1 p)) := by
  have h' := h
  obtain ⟨hL, hW, hT, h4, h5, h6, h7, h8, h9, h10, h11, h12⟩ := h'
  obtain ⟨n1, n2, n3, n4, n5, n6⟩ := nS_rg h11 h6.2.2.1 h6.2.2.2.1 (by omega) hy h1
  refine (c_coinsBehind hN (h.cp hp) hh.1 hh.2.1 n2 (fun s hs => ⟨hh.2.2 s hs, (n6 s hs).1, by have := (n6 s hs).2; omega⟩)).mono ?_
  rintro r u ⟨rfl, hr⟩
  refine ⟨rfl, ?_⟩
  rw [hr]
  simp only [nS, if_true, cnS, puF, hcnt]
  omega
end RO
