/-! ===== Sim gives one state to class and model =====  -/
def sC (w : gW) : Nat := (gI w 133 0).toInt.toNat
def sK (w : gW) (p : Nat) : Nat := (gI w 135 p).toInt.toNat
def sV (w : gW) (p : Nat) : Nat := (gI w 136 p).toInt.toNat
def sO (w : gW) (p : Nat) : Nat := (gR w 10 p).getD 0
def sRo (w : gW) (p k : Nat) : Int := (gI w 138 (4 * p + k)).toInt
def sA (w : gW) : PS := (fun p s => (gI w 139 (6 * p + s)).toInt, fun s => (gI w 140 s).toInt, fun p => (gI w 137 p).toInt.toNat)
section SIMCA
variable {w u : gW} {c tp b : Nat} {kd v ob : Nat → Nat} {ro : Nat → Nat → Int} {L : List Cl} {A : PS} {W : Nat}
theorem wr_of (h : wrt w) : wrM w := fun s hs => by
  obtain ⟨h0, h1, h2, h3, h4, h5⟩ := h
  rcases in6 hs with rfl | rfl | rfl | rfl | rfl | rfl
  · rw [h0]; rfl
  · rw [h1]; rfl
  · rw [h2]; rfl
  · rw [h3]; rfl
  · rw [h4]; rfl
  · rw [h5]; rfl
theorem Sim.ca (h : Sim w) : ∃ tp L b, CA w 9 (sC w) tp (sK w) (sV w) (sO w) (sRo w) L (sA w) ∧ MA w (sC w) b (sK w) (sV w) (sRo w) L (sA w) ∧ (sC w : Int) = (gI w 133 0).toInt ∧ ∀ p, p < sC w → gR w 10 p = some (sO w p) := by
  obtain ⟨hL, hA, hB⟩ := h
  have hcr : 0 ≤ (gI w 133 0).toInt ∧ (gI w 133 0).toInt ≤ 4 := hA.acntr
  have hc : (sC w : Int) = (gI w 133 0).toInt := by unfold sC; omega
  have hc4 : sC w ≤ 4 := by omega
  have hthe : -1 ≤ (gI w 133 9).toInt ∧ (gI w 133 9).toInt ≤ 5 := hA.athe
  have hthl : (gI w 133 9).toInt < (gI w 133 8).toInt := hA.athel
  have htw : gR w 9 14 = some (tpl (gI w 133 9)) := hA.atwn
  have hpy : ∀ p, p < sC w → gR w 10 p = some (sO w p) ∧ 182 ≤ sO w p ∧ (sh w (sO w p)).1 = sK w p ∧ sK w p < 7 ∧ (gI w (sO w p) 0).toInt = (sK w p : Int) ∧ (gI w (sO w p) 1).toInt = (p : Int) ∧ (gI w (sO w p) 2).toInt = (sV w p : Int) ∧ sV w p ≤ 9 := fun p hp => by
    obtain ⟨o, h1, h2, h3, h4, h5, h6, h7, h8⟩ := hA.apyr p (by omega) (by omega)
    have eo : sO w p = o := by unfold sO; rw [h1]; rfl
    have hk : 0 ≤ (gI w 135 p).toInt ∧ (gI w 135 p).toInt ≤ 6 := hA.aknd p (by omega)
    have hv : 0 ≤ (gI w 136 p).toInt ∧ (gI w 136 p).toInt ≤ 9 := hA.av p (by omega)
    have ek : (sK w p : Int) = (gI w 135 p).toInt := by unfold sK; omega
    have ev : (sV w p : Int) = (gI w 136 p).toInt := by unfold sV; omega
    rw [eo]
    refine ⟨h1, h2, by omega, by omega, by rw [h6, ek], ?_, by rw [h8, ev], by omega⟩
    rw [h7, toInt_J ⟨by omega, by omega⟩]
  have hpd : ∀ p, p < 4 → (gI w 137 p).toInt = ((sA w).2.2 p : Int) ∧ (sA w).2.2 p ≤ 9999 := fun p hp => by
    have := hA.apadr p hp
    show _ = (((gI w 137 p).toInt.toNat : Nat) : Int) ∧ (gI w 137 p).toInt.toNat ≤ 9999
    generalize (gI w 137 p).toInt = z at this
    have h1 := this.1
    have h2 := this.2
    constructor
    · omega
    · omega
  have hrg : rgS (sA w) := ⟨fun p s hp hs => hA.apurr (6 * p + s) (by omega), fun s hs => hA.atilr s hs, fun p hp => (hpd p hp).2⟩
  have hro : ∀ p k, p < 4 → k < 4 → 0 ≤ sRo w p k ∧ sRo w p k ≤ 5 := fun p k hp hk => hA.arowr (4 * p + k) (by omega)
  have town : ∃ tp L b, isT tp ∧ gR w 9 14 = some tp ∧ TW w tp L ∧ MV w b L := by
    by_cases z : (gI w 133 9).toInt = -1
    · refine ⟨1, [], 0, Or.inl rfl, ?_, hB.1, by simp, by simp, fun x hx => (by cases hx), trivial, Or.inl ⟨z, rfl, rfl⟩⟩
      rw [htw]; unfold tpl; rw [if_pos (by rw [ti_lt, z, ti_0]; decide)]
    · obtain ⟨f, hf⟩ : ∃ f : Nat, (gI w 133 9).toInt = (f : Int) := ⟨(gI w 133 9).toInt.toNat, by omega⟩
      obtain ⟨L, g1, g2, g3, -⟩ := hB.2 f (by omega) (by omega)
      refine ⟨85 + 8 * f, L, 10 * f, Or.inr ⟨f, by omega, rfl⟩, ?_, g1, g1.2.2.2.1, ?_, g1.2.2.1, g2, Or.inr ⟨f, by omega, hf, rfl, g3⟩⟩
      · rw [htw]; unfold tpl; rw [if_neg (by rw [ti_lt, hf, ti_0]; omega), nat_of hf]
      · have := g1.2.2.2.1; omega
  obtain ⟨tp, L, b, t1, t2, t3, t4⟩ := town
  refine ⟨tp, L, b, ⟨hL, Or.inl rfl, t1, hc4, t2, t3, fun p hp => (hpy p hp).2, fun p s hp hs => ?_, fun s hs => ?_, fun p hp => ?_, hrg, fun p k hp hk => ⟨?_, hro p k hp hk⟩⟩, ⟨hL, t4, wr_of hA.wor, hc4, fun p hp => ?_, fun _ _ _ _ => rfl, fun _ _ => rfl, fun p hp => (hpd p hp).1, hrg, fun p k hp hk => ⟨rfl, hro p k hp hk⟩⟩, hc, fun p hp => (hpy p hp).1⟩
  · have := hA.apur p s hp hs
    show (gI w (12 + p) s).toInt = _
    rw [this]; rfl
  · have := hA.atil s hs
    show (gI w 22 s).toInt = _
    rw [this]; rfl
  · have := hA.apad p hp
    show (gI w 21 p).toInt = _
    rw [this]; exact (hpd p hp).1
  · have := hA.arow p k hp hk
    show (gI w (17 + p) k).toInt = _
    rw [this]; rfl
  · have hk : 0 ≤ (gI w 135 p).toInt ∧ (gI w 135 p).toInt ≤ 6 := hA.aknd p (by omega)
    have hv : 0 ≤ (gI w 136 p).toInt ∧ (gI w 136 p).toInt ≤ 9 := hA.av p (by omega)
    unfold sK sV
    omega
theorem CA.fr {T : List Nat} {C : List (Nat × Nat)} (h : CA w W c tp kd v ob ro L A) (f : Fr T C w u) (hW' : ∀ d, d ≤ 18 → oP T C (W + d)) (hT' : ∀ d, d ≤ 6 → oP T C (tp + d)) (ho : ∀ a, 182 ≤ a → oP T C a) : CA u W c tp kd v ob ro L A := by
  obtain ⟨h1, hW, hT, h4, h5, h6, h7, h8, h9, h10, h11, h12⟩ := h
  have nW0 : oP T C W := hW' 0 (by omega)
  refine ⟨f.lay h1, hW, hT, h4, by rw [f.r nW0]; exact h5, h6.fr f hT', h7.fr f ho, fun p s hp hs => ?_, fun s hs => ?_, fun p hp => ?_, h11, fun p k hp hk => ?_⟩
  · have e : W + 3 + p = W + (3 + p) := by omega
    rw [e, f.i (hW' _ (by omega)), ← e]; exact h8 p s hp hs
  · rw [f.i (hW' _ (by omega))]; exact h9 s hs
  · rw [f.i (hW' _ (by omega))]; exact h10 p hp
  · have e : W + 8 + p = W + (8 + p) := by omega
    rw [e, f.i (hW' _ (by omega)), ← e]; exact h12 p k hp hk
theorem MA.fr {T : List Nat} {C : List (Nat × Nat)} (h : MA w c b kd v ro L A) (f : Fr T C w u) (n : ∀ a, 134 ≤ a → a ≤ 149 → oP T C a) (h9' : oC T C 133 9) : MA u c b kd v ro L A := by
  obtain ⟨h1, h2, h3, h4, h5, h8, h9, h10, h11, h12⟩ := h
  refine ⟨f.lay h1, h2.fr f (fun d h h' => n d (by omega) (by omega)) h9', h3.c f (n _ (by omega) (by omega)), h4, fun p hp => ?_, fun p s hp hs => ?_, fun s hs => ?_, fun p hp => ?_, h11, fun p k hp hk => ?_⟩
  · rw [f.i (n _ (by omega) (by omega)), f.i (n _ (by omega) (by omega))]; exact h5 p hp
  · rw [f.i (n _ (by omega) (by omega))]; exact h8 p s hp hs
  · rw [f.i (n _ (by omega) (by omega))]; exact h9 s hs
  · rw [f.i (n _ (by omega) (by omega))]; exact h10 p hp
  · rw [f.i (n _ (by omega) (by omega))]; exact h12 p k hp hk
theorem sm_o {T : List Nat} {C : List (Nat × Nat)} (hT : ∀ a ∈ T, 134 ≤ a ∧ a ≤ 181) (hC : ∀ c ∈ C, 133 ≤ c.1 ∧ c.1 ≤ 181) {a : Nat} (h : a < 133 ∨ 182 ≤ a) : oP T C a := ⟨fun z => by have := hT a z; omega, fun c hc e => by have := hC c hc; omega⟩
/-- what the model alone writes -/
theorem CA.mdl {T : List Nat} {C : List (Nat × Nat)} (h : CA w W c tp kd v ob ro L A) (f : Fr T C w u) (hT : ∀ a ∈ T, 134 ≤ a ∧ a ≤ 181) (hC : ∀ c ∈ C, 133 ≤ c.1 ∧ c.1 ≤ 181) : CA u W c tp kd v ob ro L A := by
  have h' := h
  obtain ⟨-, hW, hT', -⟩ := h'
  exact h.fr f (fun d hd => sm_o hT hC (by rcases hW with rfl | rfl <;> omega)) (fun d hd => sm_o hT hC (by rcases hT' with rfl | ⟨i, hi, rfl⟩ <;> omega)) (fun a ha => sm_o hT hC (Or.inr ha))
theorem CA.gf (h : CA w W c tp kd v ob ro L A) (f : GF w u) : CA u W c tp kd v ob ro L A := h.mdl f.1 (by decide) (by decide)
/-- what the class alone writes -/
theorem MA.cls {T : List Nat} {C : List (Nat × Nat)} (h : MA w c b kd v ro L A) (f : Fr T C w u) (hT : ∀ a ∈ T, a < 133) (hC : ∀ c ∈ C, c.1 < 133) : MA u c b kd v ro L A :=
  h.fr f (fun a h1 h2 => ⟨fun z => by have := hT a z; omega, fun c hc e => by have := hC c hc; omega⟩) ⟨fun z => by have := hT _ z; omega, fun z => by have := hC _ z; simp at this⟩
theorem Sim.of_state (h : Sim w) {z : gW} (f : Fr [66, 67, 68, 69, 70, 71, 8, 92, 100, 108, 116, 124, 132, 150, 151, 152, 153, 154, 155, 156, 157, 158, 159, 160, 12, 13, 14, 15, 21, 22, 137, 139, 140] [(133, 32), (133, 33), (133, 34), (133, 38), (133, 39)] w z) (hc : CA z 9 c tp kd v ob ro L A) (hm : MA z c b kd v ro L A) (ec : (c : Int) = (gI w 133 0).toInt) (hz : ∀ p k, c ≤ p → p < 4 → k < 6 → A.1 p k = 0) (hz2 : ∀ p, c ≤ p → p < 4 → A.2.2 p = 0) : Sim z := by
  obtain ⟨-, -, -, -, -, -, -, c1, c2, c3, hrg, -⟩ := hc
  obtain ⟨-, -, -, -, -, m1, m2, m3, -, -⟩ := hm
  have e0 : gI z 133 0 = gI w 133 0 := f.c ⟨by decide, by decide⟩
  refine h.u_pay f (fun p k hp hk => ti_eq.mpr ?_) (fun p k hp hk hl => ?_) (fun j hj => ?_) (fun p hp => ti_eq.mpr ?_) (fun p k hp hk hl => ?_) (fun p hp => ?_) (fun s hs => ti_eq.mpr ?_) (fun s hs => ?_)
  · rw [m1 p k hp hk]; exact c1 p k hp hk
  · rw [e0] at hl
    refine ti_eq.mpr ?_
    rw [m1 p k hp hk, hz p k (by omega) hp hk]; rfl
  · have hj6 : j % 6 < 6 := Nat.mod_lt _ (by omega)
    have e : j = 6 * (j / 6) + j % 6 := by omega
    rw [e, m1 _ _ (by omega) hj6]
    exact hrg.1 _ _ (by omega) hj6
  · rw [m3 p hp]; exact c3 p hp
  · rw [e0] at hl
    have hk0 : k = 0 := by omega
    subst hk0
    refine ti_eq.mpr ?_
    have e : 1 * p + 0 = p := by omega
    rw [e, m3 p hp, hz2 p (by omega) hp]; rfl
  · rw [m3 p hp]
    have := hrg.2.2 p hp
    exact ⟨Int.natCast_nonneg _, Int.ofNat_le.mpr this⟩
  · rw [m2 s hs]; exact c2 s hs
  · rw [m2 s hs]; exact hrg.2.1 s hs
theorem Sim.z (h : Sim w) : (∀ p k, sC w ≤ p → p < 4 → k < 6 → (sA w).1 p k = 0) ∧ ∀ p, sC w ≤ p → p < 4 → (sA w).2.2 p = 0 := by
  obtain ⟨-, hA, -⟩ := h
  have hcr : 0 ≤ (gI w 133 0).toInt ∧ (gI w 133 0).toInt ≤ 4 := hA.acntr
  refine ⟨fun p k h1 hp hk => ?_, fun p h1 hp => ?_⟩
  · have := hA.apurz p k hp hk (by unfold sC at h1; omega)
    show (gI w 139 (6 * p + k)).toInt = 0
    rw [this]; rfl
  · have := hA.apadz p 0 hp (by omega) (by unfold sC at h1; omega)
    have e : 1 * p + 0 = p := by omega
    rw [e] at this
    show (gI w 137 p).toInt.toNat = 0
    rw [this]; rfl
end SIMCA
