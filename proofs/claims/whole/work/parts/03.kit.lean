/-! ===== the pure side: combinators of what a method does ===== -/
def bd {α β : Type} (v : α) (f : α → Option β) : Option β := f v
def gd {β : Type} (c : Prop) [Decidable c] (x : Option β) : Option β := if c then x else none
def cd {β : Type} (c : Prop) [Decidable c] (a b : Option β) : Option β := if c then a else b
def rr {β : Type} (o : Option Nat) (f : Nat → Option β) : Option β := match o with
  | none => none
  | some x => f x
def nr {β : Type} (o : Option Nat) (z : Option β) (f : Nat → Option β) : Option β := match o with
  | none => z
  | some x => f x
def kl {ρ σ β : Type} (x : Option (ρ × σ)) (f : ρ → σ → Option β) : Option β := match x with
  | none => none
  | some q => f q.1 q.2
def itr {α β : Type} (f : (α → Option β) → α → Option β) : Nat → α → Option β
  | 0, _ => none
  | n + 1, x => f (itr f n) x
theorem itr_s {α β : Type} (f : (α → Option β) → α → Option β) (n : Nat) (x : α) : itr f (n + 1) x = f (itr f n) x := rfl
theorem gd_e {β : Type} {c : Prop} [Decidable c] {x : Option β} {r : β} (h : gd c x = some r) : c ∧ x = some r := by
  unfold gd at h
  split at h
  · exact ⟨by assumption, h⟩
  · cases h
theorem cd_t {β : Type} {c : Prop} [Decidable c] {x y : Option β} {r : β} (hc : c) (h : cd c x y = some r) : x = some r := by
  unfold cd at h
  rwa [if_pos hc] at h
theorem cd_f {β : Type} {c : Prop} [Decidable c] {x y : Option β} {r : β} (hc : ¬ c) (h : cd c x y = some r) : y = some r := by
  unfold cd at h
  rwa [if_neg hc] at h
theorem rr_e {β : Type} {o : Option Nat} {f : Nat → Option β} {r : β} (h : rr o f = some r) : ∃ x, o = some x ∧ f x = some r := by
  cases o with
  | none => cases h
  | some x => exact ⟨x, rfl, h⟩
theorem nr_e {β : Type} {o : Option Nat} {z : Option β} {f : Nat → Option β} {r : β} (h : nr o z f = some r) : (o = none ∧ z = some r) ∨ ∃ x, o = some x ∧ f x = some r := by
  cases o with
  | none => exact Or.inl ⟨rfl, h⟩
  | some x => exact Or.inr ⟨x, rfl, h⟩
theorem kl_e {ρ σ β : Type} {x : Option (ρ × σ)} {f : ρ → σ → Option β} {r : β} (h : kl x f = some r) : ∃ v w, x = some (v, w) ∧ f v w = some r := by
  cases x with
  | none => cases h
  | some q => exact ⟨q.1, q.2, rfl, h⟩
theorem bd_e {α β : Type} {v : α} {f : α → Option β} {r : β} (h : bd v f = some r) : f v = some r := h
/-! ===== the pure memory: places 0, 1, 2 ..; what stands at each (a kind, a length), its ints, longs, references ===== -/
abbrev gW : Type := Nat × (Nat → Nat × Nat) × (Nat → Nat → Int32) × (Nat → Nat → Int64) × (Nat → Nat → Option Nat)
def nx (w : gW) : Nat := w.1
def sh (w : gW) (a : Nat) : Nat × Nat := w.2.1 a
def gI (w : gW) (a k : Nat) : Int32 := w.2.2.1 a k
def gL (w : gW) (a k : Nat) : Int64 := w.2.2.2.1 a k
def gR (w : gW) (a k : Nat) : Option Nat := w.2.2.2.2 a k
def sI (w : gW) (a k : Nat) (v : Int32) : gW := (w.1, w.2.1, fun b j => if b = a ∧ j = k then v else w.2.2.1 b j, w.2.2.2.1, w.2.2.2.2)
def sL (w : gW) (a k : Nat) (v : Int64) : gW := (w.1, w.2.1, w.2.2.1, fun b j => if b = a ∧ j = k then v else w.2.2.2.1 b j, w.2.2.2.2)
def sR (w : gW) (a k : Nat) (v : Option Nat) : gW := (w.1, w.2.1, w.2.2.1, w.2.2.2.1, fun b j => if b = a ∧ j = k then v else w.2.2.2.2 b j)
def cI (w : gW) (a s b d n : Nat) : gW := (w.1, w.2.1, fun q j => if q = b ∧ d ≤ j ∧ j < d + n then w.2.2.1 a (s + (j - d)) else w.2.2.1 q j, w.2.2.2.1, w.2.2.2.2)
def cL (w : gW) (a s b d n : Nat) : gW := (w.1, w.2.1, w.2.2.1, fun q j => if q = b ∧ d ≤ j ∧ j < d + n then w.2.2.2.1 a (s + (j - d)) else w.2.2.2.1 q j, w.2.2.2.2)
/-- one more place, of that kind and length, all 0 and null -/
def nw (w : gW) (kd len : Nat) : gW := (w.1 + 1, (fun b => if b = w.1 then (kd, len) else w.2.1 b), (fun b j => if b = w.1 then 0 else w.2.2.1 b j), (fun b j => if b = w.1 then 0 else w.2.2.2.1 b j), (fun b j => if b = w.1 then none else w.2.2.2.2 b j))
/-- an array of n arrays of that kind and length -/
def nm (w : gW) (ko kd n len : Nat) : gW := (w.1 + 1 + n, (fun b => if b = w.1 then (ko, n) else if w.1 < b ∧ b < w.1 + 1 + n then (kd, len) else w.2.1 b), (fun b j => if w.1 ≤ b ∧ b < w.1 + 1 + n then 0 else w.2.2.1 b j), (fun b j => if w.1 ≤ b ∧ b < w.1 + 1 + n then 0 else w.2.2.2.1 b j), (fun b j => if b = w.1 then (if j < n then some (w.1 + 1 + j) else none) else if w.1 ≤ b ∧ b < w.1 + 1 + n then none else w.2.2.2.2 b j))
/-! ===== how the heap holds it, from the cell B on ===== -/
def gVal (B : Nat) (ty : FieldType) (w : gW) (a k : Nat) : Value := match ty with
  | .long => .long (gL w a k)
  | .object _ => va_rf ((gR w a k).map (B + ·))
  | .array _ => va_rf ((gR w a k).map (B + ·))
  | _ => .int (gI w a k)
def gCell (D : va_G) (cA : Nat → ClassId) (B : Nat) (w : gW) (a : Nat) (H : Heap) : Prop :=
  if (sh w a).1 < 50 then ∃ r, gcl[(sh w a).1]? = some r ∧ t_OB (B + a) (D.1 (sh w a).1) r.2.2 (D.2 (sh w a).1) H (fun k => gVal B (gT (sh w a).1 k) w a k)
  else H[B + a]? = some (arrV (cA (sh w a).1) (sh w a).2 (fun j => gVal B (gAT (sh w a).1) w a j))
def gRep (D : va_G) (cA : Nat → ClassId) (B : Nat) (w : gW) (H : Heap) : Prop := H.size = B + nx w ∧ (∀ a, a < nx w → gCell D cA B w a H) ∧ ∀ a, nx w ≤ a → (sh w a).1 = 99
def gA (B : Nat) : Nat → Prop := fun q => B ≤ q
section REP
variable {D : va_G} {cA : Nat → ClassId} {B : Nat} {w w' : gW} {H H1 : Heap} {a : Nat}
theorem gRep.lt (h : gRep D cA B w H) (hk : (sh w a).1 ≠ 99) : a < nx w := by
  rcases Nat.lt_or_ge a (nx w) with q | q
  · exact q
  · exact absurd (h.2.2 a q) hk
theorem gRep.ob (h : gRep D cA B w H) {ci : Nat} (hk : (sh w a).1 = ci) (hl : ci < 50) : ∃ r, gcl[ci]? = some r ∧ t_OB (B + a) (D.1 ci) r.2.2 (D.2 ci) H (fun k => gVal B (gT ci k) w a k) := by
  have h1 := h.2.1 a (h.lt (by omega))
  unfold gCell at h1
  rw [hk, if_pos hl] at h1
  exact h1
theorem gRep.ar (h : gRep D cA B w H) {kd : Nat} (hk : (sh w a).1 = kd) (hl : 50 ≤ kd ∧ kd < 99) : H[B + a]? = some (arrV (cA kd) (sh w a).2 (fun j => gVal B (gAT kd) w a j)) := by
  have h1 := h.2.1 a (h.lt (by omega))
  unfold gCell at h1
  rw [hk, if_neg (by omega)] at h1
  exact h1
theorem gVal_c {ty : FieldType} {k : Nat} (h1 : gI w' a k = gI w a k) (h2 : gL w' a k = gL w a k) (h3 : gR w' a k = gR w a k) : gVal B ty w' a k = gVal B ty w a k := by
  unfold gVal
  rw [h1, h2, h3]
theorem gCell_c (hs : sh w' a = sh w a) (hv : ∀ k, gI w' a k = gI w a k ∧ gL w' a k = gL w a k ∧ gR w' a k = gR w a k) (h : gCell D cA B w a H) (hq : H1[B + a]? = H[B + a]?) : gCell D cA B w' a H1 := by
  have e : ∀ ty k, gVal B ty w' a k = gVal B ty w a k := fun ty k => gVal_c (hv k).1 (hv k).2.1 (hv k).2.2
  unfold gCell at h ⊢
  rw [hs]
  split
  · rename_i hl
    rw [if_pos hl] at h
    obtain ⟨r, h1, h2⟩ := h
    exact ⟨r, h1, (h2.kept hq).to (fun k _ => (e _ _).symm)⟩
  · rename_i hl
    rw [if_neg hl] at h
    rw [hq, h]
    congr 2
    funext j
    exact (e _ _).symm
theorem gRep.upd (hR : gRep D cA B w H) (hn : nx w' = nx w) (hs : ∀ b, sh w' b = sh w b) (z : H1.size = H.size) (oq : ∀ q : Nat, q ≠ B + a → H1[q]? = H[q]?) (hself : gCell D cA B w' a H1)
    (ho : ∀ b, b ≠ a → ∀ k, gI w' b k = gI w b k ∧ gL w' b k = gL w b k ∧ gR w' b k = gR w b k) : gRep D cA B w' H1 := by
  refine ⟨by rw [z, hn]; exact hR.1, fun b hb => ?_, fun b hb => by rw [hs]; exact hR.2.2 b (by rw [← hn]; exact hb)⟩
  rw [hn] at hb
  by_cases e : b = a
  · rw [e]; exact hself
  · exact gCell_c (hs b) (ho b e) (hR.2.1 b hb) (oq _ (by omega))
theorem gRep.sIa (hR : gRep D cA B w H) {kd : Nat} (hk : (sh w a).1 = kd) (hl : 50 ≤ kd ∧ kd < 99) (hty : ∀ u j, gVal B (gAT kd) u a j = .int (gI u a j)) {i : Nat} {x : Int32} (e : H1[B + a]? = some ((arrV (cA kd) (sh w a).2 (fun j => gVal B (gAT kd) w a j)).setSlot i (.int x))) (z : H1.size = H.size) (oq : ∀ q : Nat, q ≠ B + a → H1[q]? = H[q]?) : gRep D cA B (sI w a i x) H1 := by
  refine hR.upd (a := a) rfl (fun _ => rfl) z oq ?_ (fun b hb k => ⟨?_, rfl, rfl⟩)
  · unfold gCell
    have hs : sh (sI w a i x) a = sh w a := rfl
    rw [hs, hk, if_neg (by omega), e, arrV_store]
    congr 2
    funext j
    rw [hty]
    by_cases hj : j = i
    · subst hj; simp [updV, gI, sI]
    · simp [updV, gI, sI, hj, hty]
  · simp [gI, sI, hb]
theorem gRep.sLa (hR : gRep D cA B w H) (hk : (sh w a).1 = 52) {i : Nat} {x : Int64} (e : H1[B + a]? = some ((arrV (cA 52) (sh w a).2 (fun j => gVal B (gAT 52) w a j)).setSlot i (.long x))) (z : H1.size = H.size) (oq : ∀ q : Nat, q ≠ B + a → H1[q]? = H[q]?) : gRep D cA B (sL w a i x) H1 := by
  refine hR.upd (a := a) rfl (fun _ => rfl) z oq ?_ (fun b hb k => ⟨rfl, ?_, rfl⟩)
  · unfold gCell
    have hs : sh (sL w a i x) a = sh w a := rfl
    rw [hs, hk, if_neg (by omega), e, arrV_store]
    congr 2
    funext j
    have hty : ∀ u j, gVal B (gAT 52) u a j = .long (gL u a j) := fun _ _ => rfl
    rw [hty]
    by_cases hj : j = i
    · subst hj; simp [updV, gL, sL]
    · simp [updV, gL, sL, hj, hty]
  · simp [gL, sL, hb]
theorem gRep.sRa (hR : gRep D cA B w H) {kd : Nat} (hk : (sh w a).1 = kd) (hl : 50 ≤ kd ∧ kd < 99) (hty : ∀ u j, gVal B (gAT kd) u a j = va_rf ((gR u a j).map (B + ·))) {i : Nat} {x : Option Nat} (e : H1[B + a]? = some ((arrV (cA kd) (sh w a).2 (fun j => gVal B (gAT kd) w a j)).setSlot i (va_rf (x.map (B + ·))))) (z : H1.size = H.size) (oq : ∀ q : Nat, q ≠ B + a → H1[q]? = H[q]?) : gRep D cA B (sR w a i x) H1 := by
  refine hR.upd (a := a) rfl (fun _ => rfl) z oq ?_ (fun b hb k => ⟨rfl, rfl, ?_⟩)
  · unfold gCell
    have hs : sh (sR w a i x) a = sh w a := rfl
    rw [hs, hk, if_neg (by omega), e, arrV_store]
    congr 2
    funext j
    rw [hty]
    by_cases hj : j = i
    · subst hj; simp [updV, gR, sR]
    · simp [updV, gR, sR, hj, hty]
  · simp [gR, sR, hb]
theorem gRep.sob (hR : gRep D cA B w H) {ci : Nat} (hk : (sh w a).1 = ci) (hl : ci < 50) (hn : nx w' = nx w) (hs : ∀ b, sh w' b = sh w b) {r : vw_C} (hc : gcl[ci]? = some r) (z : H1.size = H.size) (oq : ∀ q : Nat, q ≠ B + a → H1[q]? = H[q]?) (hob : t_OB (B + a) (D.1 ci) r.2.2 (D.2 ci) H1 (fun k => gVal B (gT ci k) w' a k))
    (ho : ∀ b, b ≠ a → ∀ k, gI w' b k = gI w b k ∧ gL w' b k = gL w b k ∧ gR w' b k = gR w b k) : gRep D cA B w' H1 := by
  refine hR.upd (a := a) hn hs z oq ?_ ho
  unfold gCell
  rw [hs, hk, if_pos hl]
  exact ⟨r, hc, hob⟩
/-- a new cell behind all -/
theorem gRep.new (hR : gRep D cA B w H) {kd len : Nat} (h99 : kd ≠ 99) (z : H1.size = H.size + 1) (oq : ∀ q : Nat, q < H.size → H1[q]? = H[q]?) (hself : gCell D cA B (nw w kd len) (nx w) H1) : gRep D cA B (nw w kd len) H1 := by
  have e1 : nx (nw w kd len) = nx w + 1 := rfl
  refine ⟨by rw [z, e1, hR.1]; omega, fun b hb => ?_, fun b hb => ?_⟩
  · rw [e1] at hb
    by_cases e : b = nx w
    · rw [e]; exact hself
    · have hlt : b < nx w := by omega
      have hne : ¬ b = w.1 := e
      refine gCell_c (w := w) ?_ (fun k => ⟨?_, ?_, ?_⟩) (hR.2.1 b hlt) (oq _ (by rw [hR.1]; omega))
      · simp [sh, nw, hne]
      · simp [gI, nw, hne]
      · simp [gL, nw, hne]
      · simp [gR, nw, hne]
  · rw [e1] at hb
    have h := hR.2.2 b (by omega)
    have hne : ¬ b = w.1 := by
      have : nx w = w.1 := rfl
      omega
    simp only [sh, nw, if_neg hne]
    exact h
end REP
/-! ===== what is known of the tables and of the old cells at a method's start ===== -/
def gWorth (j : Nat) : Int32 := [1, 2, 5, 10, 20, 50].getD j 0
abbrev gLen : List Nat := [4, 4, 4, 6, 3]
abbrev gByt : List (List Int32) := [[104, 101, 102, 116], [107, 101, 101, 112], [109, 111, 115, 116], [115, 119, 116, 112, 107, 100], [60, 61, 62]]
abbrev gO : Type := Nat × (Nat → Nat) × (Nat → Nat)
abbrev gKn : List Cond := [.fieldLinkNest "RidCoppers$Town" 97 "RidCoppers" "WORTH" "[I" "RidCoppers", .fieldLinkNest "RidCoppers$Payment" 140 "RidCoppers" "WORTH" "[I" "RidCoppers", .fieldLinkNest "RidCoppers$World" 75 "RidCoppers" "WORTH" "[I" "RidCoppers"]
abbrev gKm : List Cond := [.methodLinkNest "RidCoppers" 39 y_Pm_init "RidCoppers", .methodLinkNest "RidCoppers" 61 y_Tr_init "RidCoppers"]
abbrev gKc : List (String × String) := [("RidCoppers$Light", "RidCoppers$Exact"), ("RidCoppers$Wild", "RidCoppers$Rough"), ("RidCoppers$Told", "RidCoppers$Keeper"), ("RidCoppers$Exact", "RidCoppers$Payer"), ("RidCoppers$Rough", "RidCoppers$Payer"), ("RidCoppers$Keeper", "RidCoppers$Payer"), ("RidCoppers$Light", "RidCoppers$Payer"), ("RidCoppers$Wild", "RidCoppers$Payer"), ("RidCoppers$Told", "RidCoppers$Payer")]
abbrev gKnc : List (String × String) := [("RidCoppers$Payer", "RidCoppers$Exact"), ("RidCoppers$Rough", "RidCoppers$Exact"), ("RidCoppers$Keeper", "RidCoppers$Exact"), ("RidCoppers$Wild", "RidCoppers$Exact"), ("RidCoppers$Told", "RidCoppers$Exact"), ("RidCoppers$Payer", "RidCoppers$Rough"), ("RidCoppers$Exact", "RidCoppers$Rough"), ("RidCoppers$Keeper", "RidCoppers$Rough"), ("RidCoppers$Light", "RidCoppers$Rough"), ("RidCoppers$Told", "RidCoppers$Rough"), ("RidCoppers$Payer", "RidCoppers$Keeper"), ("RidCoppers$Exact", "RidCoppers$Keeper"), ("RidCoppers$Rough", "RidCoppers$Keeper"), ("RidCoppers$Light", "RidCoppers$Keeper"), ("RidCoppers$Wild", "RidCoppers$Keeper"), ("RidCoppers$Payer", "RidCoppers$Light"), ("RidCoppers$Exact", "RidCoppers$Light"), ("RidCoppers$Rough", "RidCoppers$Light"), ("RidCoppers$Keeper", "RidCoppers$Light"), ("RidCoppers$Wild", "RidCoppers$Light"), ("RidCoppers$Told", "RidCoppers$Light"), ("RidCoppers$Payer", "RidCoppers$Wild"), ("RidCoppers$Exact", "RidCoppers$Wild"), ("RidCoppers$Rough", "RidCoppers$Wild"), ("RidCoppers$Keeper", "RidCoppers$Wild"), ("RidCoppers$Light", "RidCoppers$Wild"), ("RidCoppers$Told", "RidCoppers$Wild"), ("RidCoppers$Payer", "RidCoppers$Told"), ("RidCoppers$Exact", "RidCoppers$Told"), ("RidCoppers$Rough", "RidCoppers$Told"), ("RidCoppers$Keeper", "RidCoppers$Told"), ("RidCoppers$Light", "RidCoppers$Told"), ("RidCoppers$Wild", "RidCoppers$Told")]
def gZ (oc : gO) (B : Nat) (U : State) (H : Heap) : Prop :=
  va_Z "RidCoppers" "WORTH" "[I" (.ref oc.1) (gA B) U H ∧ va_T .int oc.1 6 (fun j => .int (gWorth j)) (gA B) U H ∧ va_Z "java/lang/String" "COMPACT_STRINGS" "Z" (.int 1) (gA B) U H ∧ va_Zq "jdk/internal/util/Preconditions" "SIOOBE_FORMATTER" "Ljava/util/function/BiFunction;" (gA B) U H ∧ vk_S 5 gLen gByt oc.2.1 oc.2.2 (gA B) U H
def gV (oc : gO) (U : State) : Prop :=
  (vk_R "RidCoppers$Town" 120 "heft" (oc.2.1 0) U ∧ vk_R "RidCoppers$Town" 122 "keep" (oc.2.1 1) U ∧ vk_R "RidCoppers$Town" 124 "most" (oc.2.1 2) U ∧ vk_R "RidCoppers$Town" 146 "swtpkd" (oc.2.1 3) U ∧ vk_R "RidCoppers$Town" 152 "<=>" (oc.2.1 4) U) ∧
  (va_Nw (.fieldLinkNest "RidCoppers$Town" 97 "RidCoppers" "WORTH" "[I" "RidCoppers") U ∧ va_Nw (.fieldLinkNest "RidCoppers$Payment" 140 "RidCoppers" "WORTH" "[I" "RidCoppers") U ∧ va_Nw (.fieldLinkNest "RidCoppers$World" 75 "RidCoppers" "WORTH" "[I" "RidCoppers") U ∧ va_Nw (.methodLinkNest "RidCoppers" 39 y_Pm_init "RidCoppers") U ∧ va_Nw (.methodLinkNest "RidCoppers" 61 y_Tr_init "RidCoppers") U) ∧
  (va_AO "RidCoppers$Payer" U ∧ va_AO "RidCoppers$Town" U ∧ (Cond.arrayOver (.array .int)).before #[] U = true ∧ (Cond.arrayOver (.array .long)).before #[] U = true) ∧
  (∀ q ∈ gKc, va_Nw (.castable q.1 q.2) U) ∧
  (va_Nw (.declares y_P_counts) U ∧ va_Nw (.declares y_P_hands) U ∧ va_Nw (.declares y_P_tells) U) ∧
  (∀ q ∈ gKnc, va_Nc q.1 q.2 U)
def gX (D : va_G) (cA : Nat → ClassId) (U : State) : Prop :=
  (∀ (c : Nat) (q : vw_C), gcl[c]? = some q → u_Kn U q.1 q.2.1 q.2.2 (D.1 c) (D.2 c)) ∧ ∀ k, 50 ≤ k → k < 58 → ArrOfT U (cA k) (gAT k) ∧ va_RA U (cA k) (gAT k)
def gK (D : va_G) (cA : Nat → ClassId) (oc : gO) (B : Nat) (U : State) (H : Heap) : Prop := gX D cA U ∧ gZ oc B U H ∧ gV oc U
theorem ao_arr {t : FieldType} {u U : State} (hvm : u.vm.Alike U.vm) (h : (Cond.arrayOver (.array t)).before #[] u = true) : (Cond.arrayOver (.array t)).before #[] U = true := by
  obtain ⟨comp, c, k, h1, h2, h3, h4, h5⟩ := arrayOverA_spec h
  obtain ⟨k', hk', he⟩ := hvm.2.2 _ _ h3
  have hi : (U.vm.classes.findIdx? fun (x : Class) => match x.kind with | .array component _ => component == comp | _ => false) = some c := by
    have hb : U.vm.bare = u.vm.bare := by first | exact hvm.bare_eq | exact hvm.bare_eq.symm
    have e1 := va_idx_bare U.vm comp
    have e2 := va_idx_bare u.vm comp
    rw [hb] at e1
    exact (e1.symm.trans e2).trans h2
  have hkind : k'.kind = .array comp (.array t) := by rw [he]; exact h4
  have f1 : U.vm.findClass (FieldType.array t).toString = some comp := by rw [hvm.findClass]; exact h1
  have f2 : U.vm.findClass ("[" ++ (FieldType.array t).toString) = some c := by rw [hvm.findClass]; exact h5
  unfold Cond.before Cond.holds
  simp only [Cond.value]
  rw [f1, Option.bind_some]
  refine (congrArg (fun o : Option Nat => (o.bind (fun c => (U.vm.classes[c]?).map fun (k : Class) => match k.kind with | .array _ ty => decide (ty = FieldType.array t) && decide (U.vm.findClass ("[" ++ (FieldType.array t).toString) = some c) | _ => false) == some true)) hi).trans ?_
  simp [hk', hkind, f2]
theorem gX.moved {D : va_G} {cA : Nat → ClassId} {u U : State} (hvm : u.vm.Alike U.vm) (h : gX D cA u) : gX D cA U := ⟨fun c q hq => u_Kn_moved hvm (h.1 c q hq), fun k h1 h2 => ⟨arrOfT_moved hvm (h.2 k h1 h2).1, (h.2 k h1 h2).2.moved hvm⟩⟩
theorem gZ.moved {oc : gO} {B : Nat} {u U : State} {H H1 : Heap} (hvm : u.vm.Alike U.vm) (hq : ∀ a : Nat, a < H.size → ¬ gA B a → H1[a]? = H[a]?) (h : gZ oc B u H) : gZ oc B U H1 :=
  ⟨(h.1.moved hvm).kept hq, (h.2.1.moved hvm).kept hq, (h.2.2.1.moved hvm).kept hq, (h.2.2.2.1.moved hvm).kept hq, (h.2.2.2.2.moved hvm).kept hq⟩
theorem gV.moved {oc : gO} {u U : State} (hW : u.WarmedH U.vm) (h : gV oc u) : gV oc U := by
  obtain ⟨⟨a1, a2, a3, a4, a5⟩, ⟨b1, b2, b3, b4, b5⟩, ⟨c1, c2, c3, c4⟩, d, ⟨e1, e2, e3⟩, f⟩ := h
  exact ⟨⟨a1.warm hW, a2.warm hW, a3.warm hW, a4.warm hW, a5.warm hW⟩, ⟨b1.warmF hW, b2.warmF hW, b3.warmF hW, b4.warmM hW, b5.warmM hW⟩, ⟨c1.moved hW.alike, c2.moved hW.alike, ao_arr hW.alike c3, ao_arr hW.alike c4⟩, fun q hq => (d q hq).warmC hW, ⟨e1.warmD hW, e2.warmD hW, e3.warmD hW⟩, fun q hq => (f q hq).moved hW.alike⟩
theorem gK.moved {D : va_G} {cA : Nat → ClassId} {oc : gO} {B : Nat} {u U : State} {H H1 : Heap} (hW : u.WarmedH U.vm) (hq : ∀ a : Nat, a < H.size → ¬ gA B a → H1[a]? = H[a]?) (h : gK D cA oc B u H) : gK D cA oc B U H1 := ⟨h.1.moved hW.alike, h.2.1.moved hW.alike hq, h.2.2.moved hW⟩
/-! ===== a method's contract out of its pure function ===== -/
def gPre (D : va_G) (cA : Nat → ClassId) (oc : gO) (B : Nat) (av : List Value) (w : gW) : Array Value → State → Prop := va_Pc av (fun U => gK D cA oc B U U.heap ∧ gRep D cA B w U.heap)
def gQi (D : va_G) (cA : Nat → ClassId) (B : Nat) (r : Int32) (w : gW) : Array Value → State → Outcome → State → Prop := va_Qi (S := Unit) (fun z _ => z = r) (fun _ t => gRep D cA B w t.heap) (gA B)
def gQl (D : va_G) (cA : Nat → ClassId) (B : Nat) (r : Int64) (w : gW) : Array Value → State → Outcome → State → Prop := va_Ql (S := Unit) (fun z _ => z = r) (fun _ t => gRep D cA B w t.heap) (gA B)
def gQv (D : va_G) (cA : Nat → ClassId) (B : Nat) (_ : Unit) (w : gW) : Array Value → State → Outcome → State → Prop := va_Qv (S := Unit) (fun _ => True) (fun _ t => gRep D cA B w t.heap) (gA B)
def gQr (D : va_G) (cA : Nat → ClassId) (B : Nat) (r : Option Nat) (w : gW) : Array Value → State → Outcome → State → Prop := va_Qq (S := Unit) (fun z _ => z = r.map (B + ·)) (fun _ t => gRep D cA B w t.heap) (gA B)
/-- what holds in a method's body -/
def gC (p : Program) (s : State) (m : MethodId) (args : Array Value) (meth : Method) (c : Code) (own : String) (cc : ByteArray) (nL : Nat) (ret : Option FieldType) (D : va_G) (cA : Nat → ClassId) (oc : gO) (B : Nat) : Prop :=
  p.tables.exec = Jvm.exec ∧ c.code = cc ∧ c.maxLocals = nL ∧ s.vm.findClass own = some m.cls ∧ (∀ w ∈ lw_good, w.before args s = true) ∧ meth.sig.returnType = ret ∧ meth.locks = false ∧ gK D cA oc B s s.heap ∧ B ≤ s.heap.size
section ROWS
variable {p : Program} {l : Launch} {e : Env} {R : Room} {s : State} {m : MethodId} {args : Array Value} {below : List Frame} {meth : Method} {c : Code} {H : Heap} {locs : List Loc} {cells slots : Nat} {Q : State → Prop}
variable {cc : ByteArray} {pc : Nat} {ls : Array Slot} {rest : List Value} {D : va_G} {cA : Nat → ClassId} {oc : gO} {B : Nat} {w w1 : gW} {a : Nat} {own : String}
theorem gC.enter {y : MethodName} {ws : List Cond} {rm : Room} {cc : ByteArray} {maxL : Nat} {ret : Option FieldType} {s₁ : State} {av : List Value} (hw : ws = Cond.code y cc maxL ret :: lw_good) (Bd : BodyLoose p l y (headSpec ws rm) cc maxL ret e s m args below meth c s₁) (hml : c.maxLocals = maxL) (hv : gPre D cA oc B av w args s) : args = av.toArray ∧ gC p s m args meth c y.cls cc maxL ret D cA oc B ∧ gRep D cA B w s.heap := by
  obtain ⟨h1, h2, h3⟩ := hv
  refine ⟨h1, ⟨Bd.exec, Bd.bytes, hml, findClass_of_methodNamed Bd.named, ?_, Bd.returns, Bd.notSynchronized, h2, by rw [h3.1]; omega⟩, h3⟩
  have hts := atoms_spec (ws := ws) Bd.pre
  intro w hwd
  exact hts w (by rw [hw]; exact List.mem_cons_of_mem _ hwd)
/-! names for computed values, beside the pure function -/
theorem g_nI {β : Type} {v : Int32} {f : Int32 → Option β} {r : β} (hf : bd v f = some r) (k : ∀ x, f x = some r → W p l e R s m args below meth c H locs cells slots Q (F0 m pc ls (.int x :: rest))) : W p l e R s m args below meth c H locs cells slots Q (F0 m pc ls (.int v :: rest)) := k v hf
theorem g_nL {β : Type} {v : Int64} {f : Int64 → Option β} {r : β} (hf : bd v f = some r) (k : ∀ x, f x = some r → W p l e R s m args below meth c H locs cells slots Q (F0 m pc ls (.long x :: rest))) : W p l e R s m args below meth c H locs cells slots Q (F0 m pc ls (.long v :: rest)) := k v hf
/-! reading -/
def gFld (own : String) (idx ci k : Nat) : Prop := ∃ (C : String) (T : u_T) (N : Nat), gcl[ci]? = some (C, T, N) ∧ (∀ w ∈ u_ws C T N, w ∈ lw_good) ∧ k < N ∧ ∃ ref, Cond.fieldLink own idx ref (T k).2.1 (T k).2.2.1 ∈ lw_good ∧ (ref = (T k).1 ∨ Cond.sameField ref (T k).1 (T k).2.1 (T k).2.2.1 ∈ lw_good)
theorem gSame {ref C n d : String} (hts : ∀ w ∈ lw_good, w.before args s = true) (h : ref = C ∨ Cond.sameField ref C n d ∈ lw_good) : ∀ x, s.fieldFound? C n d = some x → s.fieldFound? ref n d = some x := by
  rcases h with rfl | h
  · exact fun _ h => h
  · exact fun x hx => u_same (hts _ h) x hx
theorem gl_lt {ci : Nat} {r : vw_C} (h : gcl[ci]? = some r) : ci < 50 := by
  have := (List.getElem?_eq_some_iff.mp h).1
  have e : gcl.length = 13 := rfl
  omega
theorem g_get {idx ci k : Nat} {v : Value} (hexec : p.tables.exec = Jvm.exec) (hb : c.code = cc) (hts : ∀ w ∈ lw_good, w.before args s = true) (hown : s.vm.findClass own = some m.cls) (hK : gK D cA oc B s s.heap) (hR : gRep D cA B w H) (hF : gFld own idx ci k) (hk : (sh w a).1 = ci) (hv : gVal B (gT ci k) w a k = v) (hdg : decode cc pc = .ok (.getfield idx, 3))
    (kk : W p l e R s m args below meth c H locs cells slots Q (F0 m (pc + 3) ls (v :: rest))) : W p l e R s m args below meth c H locs cells slots Q (F0 m pc ls (.ref (B + a) :: rest)) := by
  obtain ⟨C, T, N, hc, hin, hkN, ref, hl, hsm⟩ := hF
  obtain ⟨r, h1, cell, q1, q2, q3, q4⟩ := hR.ob hk (gl_lt hc)
  have hr : r = (C, T, N) := Option.some.inj (h1.symm.trans hc)
  subst hr
  obtain ⟨hS, hfc, kC, hkC, hkind⟩ := hK.1.1 ci _ hc
  obtain ⟨cf, kf, fi, f, hi, hsl⟩ := hS k hkN
  refine W.getf hexec hb hown (hts _ hl) (gSame hts hsm _ hi) (u_facts hfc hkC (u_lays hts hin hkN) hi).1 q1 (by rw [q3]; exact fun h => by cases h) (v := v) ?_ rfl rfl hdg kk
  rw [hsl, q4 k hkN]
  exact congrArg some hv
theorem g_getI {idx ci k : Nat} (hexec : p.tables.exec = Jvm.exec) (hb : c.code = cc) (hts : ∀ w ∈ lw_good, w.before args s = true) (hown : s.vm.findClass own = some m.cls) (hK : gK D cA oc B s s.heap) (hR : gRep D cA B w H) (hF : gFld own idx ci k) (hv : ∀ u, gVal B (gT ci k) u a k = .int (gI u a k)) (hk : (sh w a).1 = ci) (hdg : decode cc pc = .ok (.getfield idx, 3))
    (kk : W p l e R s m args below meth c H locs cells slots Q (F0 m (pc + 3) ls (.int (gI w a k) :: rest))) : W p l e R s m args below meth c H locs cells slots Q (F0 m pc ls (.ref (B + a) :: rest)) := g_get hexec hb hts hown hK hR hF hk (hv w) hdg kk
theorem g_getR {idx ci k x : Nat} (hexec : p.tables.exec = Jvm.exec) (hb : c.code = cc) (hts : ∀ w ∈ lw_good, w.before args s = true) (hown : s.vm.findClass own = some m.cls) (hK : gK D cA oc B s s.heap) (hR : gRep D cA B w H) (hF : gFld own idx ci k) (hv : ∀ u, gVal B (gT ci k) u a k = va_rf ((gR u a k).map (B + ·))) (hk : (sh w a).1 = ci) (hx : gR w a k = some x) (hdg : decode cc pc = .ok (.getfield idx, 3))
    (kk : W p l e R s m args below meth c H locs cells slots Q (F0 m (pc + 3) ls (.ref (B + x) :: rest))) : W p l e R s m args below meth c H locs cells slots Q (F0 m pc ls (.ref (B + a) :: rest)) := g_get hexec hb hts hown hK hR hF hk (by rw [hv w, hx]; rfl) hdg kk
theorem g_getN {idx ci k : Nat} (hexec : p.tables.exec = Jvm.exec) (hb : c.code = cc) (hts : ∀ w ∈ lw_good, w.before args s = true) (hown : s.vm.findClass own = some m.cls) (hK : gK D cA oc B s s.heap) (hR : gRep D cA B w H) (hF : gFld own idx ci k) (hv : ∀ u, gVal B (gT ci k) u a k = va_rf ((gR u a k).map (B + ·))) (hk : (sh w a).1 = ci) (hx : gR w a k = none) (hdg : decode cc pc = .ok (.getfield idx, 3))
    (kk : W p l e R s m args below meth c H locs cells slots Q (F0 m (pc + 3) ls (.null :: rest))) : W p l e R s m args below meth c H locs cells slots Q (F0 m pc ls (.ref (B + a) :: rest)) := g_get hexec hb hts hown hK hR hF hk (by rw [hv w, hx]; rfl) hdg kk
theorem g_in {i : Int32} {n : Nat} (h : ¬ (i < 0 ∨ n ≤ i.toNatClampNeg)) (cI : ClassId) (f : Nat → Value) : ¬ (i < 0 ∨ (arrV cI n f).slots.size ≤ i.toNatClampNeg) := by rw [arrV_size]; exact h
theorem g_iald {i : Int32} (hexec : p.tables.exec = Jvm.exec) (hb : c.code = cc) (hK : gK D cA oc B s s.heap) (hR : gRep D cA B w H) (hk : (sh w a).1 = 50) (hi : ¬ (i < 0 ∨ (sh w a).2 ≤ i.toNatClampNeg)) (hdg : decode cc pc = .ok (.iaload, 1))
    (kk : W p l e R s m args below meth c H locs cells slots Q (F0 m (pc + 1) ls (.int (gI w a i.toNatClampNeg) :: rest))) : W p l e R s m args below meth c H locs cells slots Q (F0 m pc ls (.int i :: .ref (B + a) :: rest)) :=
  W.iald (v := .int (gI w a i.toNatClampNeg)) hexec hb (hR.ar hk (by decide)) ((hK.1.2 50 (by decide) (by decide)).1 _ _) (fun q => by cases q) (g_in hi _ _) (by rw [arrV_read _ _ (Nat.not_le.mp fun q => hi (Or.inr q))]; rfl) rfl rfl hdg kk
theorem g_bald {i : Int32} (hexec : p.tables.exec = Jvm.exec) (hb : c.code = cc) (hK : gK D cA oc B s s.heap) (hR : gRep D cA B w H) (hk : (sh w a).1 = 51) (hi : ¬ (i < 0 ∨ (sh w a).2 ≤ i.toNatClampNeg)) (hdg : decode cc pc = .ok (.baload, 1))
    (kk : W p l e R s m args below meth c H locs cells slots Q (F0 m (pc + 1) ls (.int (gI w a i.toNatClampNeg) :: rest))) : W p l e R s m args below meth c H locs cells slots Q (F0 m pc ls (.int i :: .ref (B + a) :: rest)) :=
  W.bald (v := .int (gI w a i.toNatClampNeg)) hexec hb (hR.ar hk (by decide)) ((hK.1.2 51 (by decide) (by decide)).1 _ _) (fun q => by cases q) (g_in hi _ _) (by rw [arrV_read _ _ (Nat.not_le.mp fun q => hi (Or.inr q))]; rfl) rfl rfl hdg kk
theorem g_zald {i : Int32} (hexec : p.tables.exec = Jvm.exec) (hb : c.code = cc) (hK : gK D cA oc B s s.heap) (hR : gRep D cA B w H) (hk : (sh w a).1 = 53) (hi : ¬ (i < 0 ∨ (sh w a).2 ≤ i.toNatClampNeg)) (hdg : decode cc pc = .ok (.baload, 1))
    (kk : W p l e R s m args below meth c H locs cells slots Q (F0 m (pc + 1) ls (.int (gI w a i.toNatClampNeg) :: rest))) : W p l e R s m args below meth c H locs cells slots Q (F0 m pc ls (.int i :: .ref (B + a) :: rest)) :=
  W.zald (v := .int (gI w a i.toNatClampNeg)) hexec hb (hR.ar hk (by decide)) ((hK.1.2 53 (by decide) (by decide)).1 _ _) (fun q => by cases q) (g_in hi _ _) (by rw [arrV_read _ _ (Nat.not_le.mp fun q => hi (Or.inr q))]; rfl) rfl rfl hdg kk
theorem g_lald {i : Int32} (hexec : p.tables.exec = Jvm.exec) (hb : c.code = cc) (hK : gK D cA oc B s s.heap) (hR : gRep D cA B w H) (hk : (sh w a).1 = 52) (hi : ¬ (i < 0 ∨ (sh w a).2 ≤ i.toNatClampNeg)) (hdg : decode cc pc = .ok (.laload, 1))
    (kk : W p l e R s m args below meth c H locs cells slots Q (F0 m (pc + 1) ls (.long (gL w a i.toNatClampNeg) :: rest))) : W p l e R s m args below meth c H locs cells slots Q (F0 m pc ls (.int i :: .ref (B + a) :: rest)) :=
  W.lald (v := .long (gL w a i.toNatClampNeg)) hexec hb (hR.ar hk (by decide)) ((hK.1.2 52 (by decide) (by decide)).1 _ _) (fun q => by cases q) (g_in hi _ _) (by rw [arrV_read _ _ (Nat.not_le.mp fun q => hi (Or.inr q))]; rfl) rfl rfl hdg kk
theorem g_aald0 {i : Int32} {kd : Nat} {v : Value} (hexec : p.tables.exec = Jvm.exec) (hb : c.code = cc) (hK : gK D cA oc B s s.heap) (hR : gRep D cA B w H) (hk : (sh w a).1 = kd) (hkd : 50 ≤ kd ∧ kd < 58) (href : (gAT kd).isReference = true) (hi : ¬ (i < 0 ∨ (sh w a).2 ≤ i.toNatClampNeg)) (hv : gVal B (gAT kd) w a i.toNatClampNeg = v) (hdg : decode cc pc = .ok (.aaload, 1))
    (kk : W p l e R s m args below meth c H locs cells slots Q (F0 m (pc + 1) ls (v :: rest))) : W p l e R s m args below meth c H locs cells slots Q (F0 m pc ls (.int i :: .ref (B + a) :: rest)) :=
  W.aald (v := v) (ty := gAT kd) hexec hb (hR.ar hk ⟨hkd.1, by omega⟩) ((hK.1.2 kd hkd.1 hkd.2).1 _ _) href (fun q => by cases q) (g_in hi _ _) (by rw [arrV_read _ _ (Nat.not_le.mp fun q => hi (Or.inr q)), hv]) rfl rfl hdg kk
theorem g_aald {i : Int32} {kd x : Nat} (hexec : p.tables.exec = Jvm.exec) (hb : c.code = cc) (hK : gK D cA oc B s s.heap) (hR : gRep D cA B w H) (hkd : 50 ≤ kd ∧ kd < 58) (href : (gAT kd).isReference = true) (hv : ∀ u j, gVal B (gAT kd) u a j = va_rf ((gR u a j).map (B + ·))) (hk : (sh w a).1 = kd) (hi : ¬ (i < 0 ∨ (sh w a).2 ≤ i.toNatClampNeg)) (hx : gR w a i.toNatClampNeg = some x) (hdg : decode cc pc = .ok (.aaload, 1))
    (kk : W p l e R s m args below meth c H locs cells slots Q (F0 m (pc + 1) ls (.ref (B + x) :: rest))) : W p l e R s m args below meth c H locs cells slots Q (F0 m pc ls (.int i :: .ref (B + a) :: rest)) := g_aald0 hexec hb hK hR hk hkd href hi (by rw [hv w, hx]; rfl) hdg kk
theorem g_aaldN {i : Int32} {kd : Nat} (hexec : p.tables.exec = Jvm.exec) (hb : c.code = cc) (hK : gK D cA oc B s s.heap) (hR : gRep D cA B w H) (hkd : 50 ≤ kd ∧ kd < 58) (href : (gAT kd).isReference = true) (hv : ∀ u j, gVal B (gAT kd) u a j = va_rf ((gR u a j).map (B + ·))) (hk : (sh w a).1 = kd) (hi : ¬ (i < 0 ∨ (sh w a).2 ≤ i.toNatClampNeg)) (hx : gR w a i.toNatClampNeg = none) (hdg : decode cc pc = .ok (.aaload, 1))
    (kk : W p l e R s m args below meth c H locs cells slots Q (F0 m (pc + 1) ls (.null :: rest))) : W p l e R s m args below meth c H locs cells slots Q (F0 m pc ls (.int i :: .ref (B + a) :: rest)) := g_aald0 hexec hb hK hR hk hkd href hi (by rw [hv w, hx]; rfl) hdg kk
theorem g_alen {kd : Nat} (hexec : p.tables.exec = Jvm.exec) (hb : c.code = cc) (hK : gK D cA oc B s s.heap) (hR : gRep D cA B w H) (hkd : 50 ≤ kd ∧ kd < 58) (hk : (sh w a).1 = kd) (hdg : decode cc pc = .ok (.arraylength, 1))
    (kk : W p l e R s m args below meth c H locs cells slots Q (F0 m (pc + 1) ls (.int (Int32.ofNat (sh w a).2) :: rest))) : W p l e R s m args below meth c H locs cells slots Q (F0 m pc ls (.ref (B + a) :: rest)) :=
  W.alen (n := Int32.ofNat (sh w a).2) hexec hb (hR.ar hk ⟨hkd.1, by omega⟩) ((hK.1.2 kd hkd.1 hkd.2).1 _ _) (by rw [arrV_size] <;> rfl) rfl rfl hdg kk
/-! writing -/
theorem gNotA {q a : Nat} (h : gA B q → False) : q ≠ B + a := fun e => h (by unfold gA; omega)
theorem g_iast {i x : Int32} (hexec : p.tables.exec = Jvm.exec) (hb : c.code = cc) (hK : gK D cA oc B s s.heap) (hR : gRep D cA B w H) (hS : va_S (gA B) s.heap H locs) (hk : (sh w a).1 = 50) (hi : ¬ (i < 0 ∨ (sh w a).2 ≤ i.toNatClampNeg)) (hdg : decode cc pc = .ok (.iastore, 1))
    (kk : ∀ (H : Heap) (locs : List Loc), gRep D cA B (sI w a i.toNatClampNeg x) H → va_S (gA B) s.heap H locs → W p l e R s m args below meth c H locs cells slots Q (F0 m (pc + 1) ls rest)) : W p l e R s m args below meth c H locs cells slots Q (F0 m pc ls (.int x :: .int i :: .ref (B + a) :: rest)) := by
  refine W.iast hexec hb (hR.ar hk (by decide)) ((hK.1.2 50 (by decide) (by decide)).1 _ _) (fun q => by cases q) (g_in hi _ _) rfl rfl hdg fun H1 e1 z oq => ?_
  exact kk H1 _ (hR.sIa hk (by decide) (fun _ _ => rfl) e1 z oq) (hS.put z oq (Nat.le_add_right _ _))
theorem g_bast {i x : Int32} (hexec : p.tables.exec = Jvm.exec) (hb : c.code = cc) (hK : gK D cA oc B s s.heap) (hR : gRep D cA B w H) (hS : va_S (gA B) s.heap H locs) (hk : (sh w a).1 = 51) (hi : ¬ (i < 0 ∨ (sh w a).2 ≤ i.toNatClampNeg)) (hdg : decode cc pc = .ok (.bastore, 1))
    (kk : ∀ (H : Heap) (locs : List Loc), gRep D cA B (sI w a i.toNatClampNeg (vp_nar .byte x)) H → va_S (gA B) s.heap H locs → W p l e R s m args below meth c H locs cells slots Q (F0 m (pc + 1) ls rest)) : W p l e R s m args below meth c H locs cells slots Q (F0 m pc ls (.int x :: .int i :: .ref (B + a) :: rest)) := by
  refine W.bast hexec hb (hR.ar hk (by decide)) ((hK.1.2 51 (by decide) (by decide)).1 _ _) (fun q => by cases q) (g_in hi _ _) rfl rfl hdg fun H1 e1 z oq => ?_
  exact kk H1 _ (hR.sIa hk (by decide) (fun _ _ => rfl) e1 z oq) (hS.put z oq (Nat.le_add_right _ _))
theorem g_zast {i x : Int32} (hexec : p.tables.exec = Jvm.exec) (hb : c.code = cc) (hK : gK D cA oc B s s.heap) (hR : gRep D cA B w H) (hS : va_S (gA B) s.heap H locs) (hk : (sh w a).1 = 53) (hi : ¬ (i < 0 ∨ (sh w a).2 ≤ i.toNatClampNeg)) (hdg : decode cc pc = .ok (.bastore, 1))
    (kk : ∀ (H : Heap) (locs : List Loc), gRep D cA B (sI w a i.toNatClampNeg (vp_nar .boolean x)) H → va_S (gA B) s.heap H locs → W p l e R s m args below meth c H locs cells slots Q (F0 m (pc + 1) ls rest)) : W p l e R s m args below meth c H locs cells slots Q (F0 m pc ls (.int x :: .int i :: .ref (B + a) :: rest)) := by
  refine W.zast hexec hb (hR.ar hk (by decide)) ((hK.1.2 53 (by decide) (by decide)).1 _ _) (fun q => by cases q) (g_in hi _ _) rfl rfl hdg fun H1 e1 z oq => ?_
  exact kk H1 _ (hR.sIa hk (by decide) (fun _ _ => rfl) e1 z oq) (hS.put z oq (Nat.le_add_right _ _))
theorem g_last {i : Int32} {x : Int64} (hexec : p.tables.exec = Jvm.exec) (hb : c.code = cc) (hK : gK D cA oc B s s.heap) (hR : gRep D cA B w H) (hS : va_S (gA B) s.heap H locs) (hk : (sh w a).1 = 52) (hi : ¬ (i < 0 ∨ (sh w a).2 ≤ i.toNatClampNeg)) (hdg : decode cc pc = .ok (.lastore, 1))
    (kk : ∀ (H : Heap) (locs : List Loc), gRep D cA B (sL w a i.toNatClampNeg x) H → va_S (gA B) s.heap H locs → W p l e R s m args below meth c H locs cells slots Q (F0 m (pc + 1) ls rest)) : W p l e R s m args below meth c H locs cells slots Q (F0 m pc ls (.long x :: .int i :: .ref (B + a) :: rest)) := by
  refine W.last hexec hb (hR.ar hk (by decide)) ((hK.1.2 52 (by decide) (by decide)).1 _ _) (fun q => by cases q) (g_in hi _ _) rfl rfl hdg fun H1 e1 z oq => ?_
  exact kk H1 _ (hR.sLa hk e1 z oq) (hS.put z oq (Nat.le_add_right _ _))
end ROWS
