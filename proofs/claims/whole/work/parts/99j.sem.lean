/-! ===== a town's text: what the model does with what the class has read =====  -/
/-- F at i, d deep: the model reads it so -/
def SF (t : Nat → Int) (n d i : Nat) (b : Bool) (e : Nat) (ops : List Int) : Prop := ∀ (N m f A cI : Nat) (w0 u : gW) (a1 : Int32) (S O : List Int) (Q : Int32 → gW → Prop), 1000 ≤ N → M0 t n w0 f A cI → a1.toInt = (cI : Int) → MX n w0 u f A cI S O i → opn S = d → 102 ≤ m + i →
  (b = true → ∀ (m' : Nat) (z : gW), 102 ≤ m' + e → MX n w0 z f A cI (wN S) (O ++ ops ++ nN S) e → ok (runE N m' a1 0 z) Q) → (b = false → ∀ z, MD w0 z A cI → (gI z 133 11).toInt = (e : Int) → Q 0 z) → ok (runE N m a1 1 u) Q
/-- on top neither ! nor & -/
def tT (S : List Int) : Prop := S = [] ∨ ∃ h S', S = h :: S' ∧ (h = 40 ∨ h = 124)
def tE (S : List Int) : Prop := S = [] ∨ ∃ S', S = 40 :: S'
def STA (t : Nat → Int) (n d i e : Nat) (ops : List Int) : Prop := ∀ (N m f A cI : Nat) (w0 u : gW) (a1 : Int32) (S O : List Int) (Q : Int32 → gW → Prop), 1000 ≤ N → M0 t n w0 f A cI → a1.toInt = (cI : Int) → MX n w0 u f A cI S O i → opn S = d → 102 ≤ m + i → tT S →
  (∀ (m' : Nat) (z : gW) (P o : List Int), 102 ≤ m' + e → pnd 38 P → ops = o ++ P.map (fun x => -x) → MX n w0 z f A cI (P ++ S) (O ++ o) e → ok (runE N m' a1 0 z) Q) → ok (runE N m a1 1 u) Q
def STf (t : Nat → Int) (n d i e : Nat) : Prop := ∀ (N m f A cI : Nat) (w0 u : gW) (a1 : Int32) (S O : List Int) (Q : Int32 → gW → Prop), 1000 ≤ N → M0 t n w0 f A cI → a1.toInt = (cI : Int) → MX n w0 u f A cI S O i → opn S = d → 102 ≤ m + i → tT S →
  (∀ z, MD w0 z A cI → (gI z 133 11).toInt = (e : Int) → Q 0 z) → ok (runE N m a1 1 u) Q
def SEA (t : Nat → Int) (n d i e : Nat) (ops : List Int) : Prop := ∀ (N m f A cI : Nat) (w0 u : gW) (a1 : Int32) (S O : List Int) (Q : Int32 → gW → Prop), 1000 ≤ N → M0 t n w0 f A cI → a1.toInt = (cI : Int) → MX n w0 u f A cI S O i → opn S = d → 102 ≤ m + i → tE S →
  (∀ (m' : Nat) (z : gW) (P o : List Int), 102 ≤ m' + e → pnd 124 P → ops = o ++ P.map (fun x => -x) → MX n w0 z f A cI (P ++ S) (O ++ o) e → ok (runE N m' a1 0 z) Q) → ok (runE N m a1 1 u) Q
def SEf (t : Nat → Int) (n d i e : Nat) : Prop := ∀ (N m f A cI : Nat) (w0 u : gW) (a1 : Int32) (S O : List Int) (Q : Int32 → gW → Prop), 1000 ≤ N → M0 t n w0 f A cI → a1.toInt = (cI : Int) → MX n w0 u f A cI S O i → opn S = d → 102 ≤ m + i → tE S →
  (∀ z, MD w0 z A cI → (gI z 133 11).toInt = (e : Int) → Q 0 z) → ok (runE N m a1 1 u) Q
section CLO
variable {n d i e e' : Nat} {t : Nat → Int} {b : Bool} {ops ops' : List Int} {y : Int}
theorem opn33 {S : List Int} : opn (33 :: S) = opn S + 1 := by simp [opn]; omega
theorem opn40 {S : List Int} : opn (40 :: S) = opn S + 1 := by simp [opn]; omega
theorem opn38 {S : List Int} : opn (38 :: S) = opn S := by simp [opn]
theorem opn124 {S : List Int} : opn (124 :: S) = opn S := by simp [opn]
theorem t33a : (33 : Int32).toInt = 33 := rfl
theorem t40a : (40 : Int32).toInt = 40 := rfl
theorem t38a : (38 : Int32).toInt = 38 := rfl
theorem t124a : (124 : Int32).toInt = 124 := rfl
section ONE
variable {N f A cI m p : Nat} {w0 u : gW} {S O : List Int} {x a1 : Int32} {Q : Int32 → gW → Prop} {rec : Nat × Int32 × Int32 × gW → Option (Int32 × gW)}
theorem m_w1op (h : M0 t n w0 f A cI) (q : MX n w0 u f A cI S O p) (hk : PK t n p = 33 ∨ PK t n p = 40) (k1 : ∀ x : Int32, x.toInt = PK t n p → ok (f_M_takesE_b43 N rec 133 a1 1 x u) Q) : ok (f_M_takesE_b22 N rec 133 a1 1 u) Q := by
  have hl := lay_TX (q.st h).1
  unfold f_M_takesE_b22
  simp only [ok_gd, true_and, hl]
  refine ok_call (m_peek h q) ?_
  rintro r1 u1 ⟨rfl, hr1⟩
  refine ok_cdf (by decide) ?_
  rw [ok_cd]
  refine ⟨fun e => k1 r1 hr1, fun e => ?_⟩
  rw [ti_eq, hr1, t33a] at e
  exact ok_cdt (by rw [ti_eq, hr1, t40a]; omega) (k1 r1 hr1)
theorem m_w0op (h : M0 t n w0 f A cI) (q : MX n w0 u f A cI S O p) (hk : PK t n p = 38 ∨ PK t n p = 124) (k1 : ∀ x : Int32, x.toInt = PK t n p → ok (f_M_takesE_b122 N rec 133 a1 x u) Q) : ok (f_M_takesE_b22 N rec 133 a1 0 u) Q := by
  have hl := lay_TX (q.st h).1
  unfold f_M_takesE_b22
  simp only [ok_gd, true_and, hl]
  refine ok_call (m_peek h q) ?_
  rintro r1 u1 ⟨rfl, hr1⟩
  refine ok_cdt trivial ?_
  rw [ok_cd]
  refine ⟨fun e => k1 r1 hr1, fun e => ?_⟩
  rw [ti_eq, hr1, t38a] at e
  exact ok_cdt (by rw [ti_eq, hr1, t124a]; omega) (k1 r1 hr1)
end ONE
theorem SF_test (h : tsA (PK t n) i b e y) (hk : PK t n i ≠ 33 ∧ PK t n i ≠ 40) : SF t n d i b e [y] := by
  intro N m f A cI w0 u a1 S O Q hN h0 h1 q ho hm k1 k2
  have hin := (q.st h0).2.2.2.1
  obtain ⟨m, rfl⟩ : ∃ m', m = m' + 1 := ⟨m - 1, by omega⟩
  have hl := lay_TX (q.st h0).1
  show ok (f_M_takesE_b22 N (itr (LEf N) m) 133 a1 1 u) Q
  unfold f_M_takesE_b22
  simp only [ok_gd, true_and, hl]
  refine ok_call (m_peek h0 q) ?_
  rintro r1 u1 ⟨rfl, hr1⟩
  refine ok_cdf (by decide) (ok_cdf (by rw [ti_eq, hr1, t33a]; exact hk.1) (ok_cdf (by rw [ti_eq, hr1, t40a]; exact hk.2) ?_))
  simp only [ok_gd, true_and, hl]
  refine ok_call (m_test hN h0 q) ?_
  rintro r2 z ⟨b', e', y', h', hr⟩
  obtain ⟨rfl, rfl, hy⟩ := tsA_det h h'
  rcases hr with ⟨rfl, rfl, h3, qz⟩ | ⟨rfl, rfl, hd, hp⟩
  · refine ok_cdf (by decide) (k1 rfl m z (by omega) ?_)
    rw [hy rfl, List.append_assoc]
    exact qz
  · exact ok_cdt rfl (ok_ret.mpr (k2 rfl z hd hp))
theorem SF_not (hk : PK t n i = 33) (hd : d < 4) (h : SF t n (d + 1) (i + 1) b e ops) : SF t n d i b e (ops ++ [-33]) := by
  intro N m f A cI w0 u a1 S O Q hN h0 h1 q ho hm k1 k2
  have hin := (q.st h0).2.2.2.1
  obtain ⟨m, rfl⟩ : ∃ m', m = m' + 1 := ⟨m - 1, by omega⟩
  show ok (f_M_takesE_b22 N (itr (LEf N) m) 133 a1 1 u) Q
  refine m_w1op h0 q (Or.inl hk) (fun x hx => ?_)
  refine m_b43 (c := 33) h0 q (by rw [hx, hk]) (Or.inl rfl) (PK_in (t := t) (by omega)) (by omega) (fun z qz => ?_)
  refine h N m f A cI w0 z a1 (33 :: S) O Q hN h0 h1 qz (by rw [opn33]; omega) (by omega) (fun hb m' z' hm' q' => k1 hb m' z' hm' ?_) k2
  have e1 : wN (33 :: S) = wN S := by simp [wN]
  have e2 : O ++ ops ++ nN (33 :: S) = O ++ (ops ++ [-33]) ++ nN S := by simp [nN]
  rw [e1, e2] at q'
  exact q'
theorem SF_par (hk : PK t n i = 40) (hd : d < 4) (h : SEA t n (d + 1) (i + 1) e ops) (he : PK t n e = 41) : SF t n d i true (e + 1) ops := by
  intro N m f A cI w0 u a1 S O Q hN h0 h1 q ho hm k1 k2
  have hin := (q.st h0).2.2.2.1
  obtain ⟨m, rfl⟩ : ∃ m', m = m' + 1 := ⟨m - 1, by omega⟩
  show ok (f_M_takesE_b22 N (itr (LEf N) m) 133 a1 1 u) Q
  refine m_w1op h0 q (Or.inr hk) (fun x hx => ?_)
  refine m_b43 (c := 40) h0 q (by rw [hx, hk]) (Or.inr rfl) (PK_in (t := t) (by omega)) (by omega) (fun z qz => ?_)
  refine h N m f A cI w0 z a1 (40 :: S) O Q hN h0 h1 qz (by rw [opn40]; omega) (by omega) (Or.inr ⟨S, rfl⟩) (fun m' z' P o hm' hP ho' q' => ?_)
  have hin' := (q'.st h0).2.2.2.1
  obtain ⟨m', rfl⟩ : ∃ m'', m' = m'' + 1 := ⟨m' - 1, by omega⟩
  show ok (f_M_takesE_b22 N (itr (LEf N) m') 133 a1 0 z') Q
  refine m_b22end hN h0 h1 q' (Or.inr ⟨40, S, rfl, by decide, fun z => absurd z (by decide)⟩) hP (by omega) (fun z => (by cases z)) (fun S' hS' _ z2 qz2 => ?_) (fun _ z => absurd he z) (Or.inr ⟨S, rfl⟩)
  cases hS'
  refine k1 rfl m' z2 (by omega) ?_
  rw [ho', ← List.append_assoc O o]
  exact qz2
theorem SF_parE (hk : PK t n i = 40) (hd : d < 4) (h : SEf t n (d + 1) (i + 1) e) : SF t n d i false e [] := by
  intro N m f A cI w0 u a1 S O Q hN h0 h1 q ho hm k1 k2
  have hin := (q.st h0).2.2.2.1
  obtain ⟨m, rfl⟩ : ∃ m', m = m' + 1 := ⟨m - 1, by omega⟩
  show ok (f_M_takesE_b22 N (itr (LEf N) m) 133 a1 1 u) Q
  refine m_w1op h0 q (Or.inr hk) (fun x hx => ?_)
  refine m_b43 (c := 40) h0 q (by rw [hx, hk]) (Or.inr rfl) (PK_in (t := t) (by omega)) (by omega) (fun z qz => ?_)
  exact h N m f A cI w0 z a1 (40 :: S) O Q hN h0 h1 qz (by rw [opn40]; omega) (by omega) (Or.inr ⟨S, rfl⟩) (k2 rfl)
theorem SF_parX (hk : PK t n i = 40) (hd : d < 4) (h : SEA t n (d + 1) (i + 1) e ops) (he : PK t n e ≠ 41 ∧ PK t n e ≠ 38 ∧ PK t n e ≠ 124) : SF t n d i false e [] := by
  intro N m f A cI w0 u a1 S O Q hN h0 h1 q ho hm k1 k2
  have hin := (q.st h0).2.2.2.1
  obtain ⟨m, rfl⟩ : ∃ m', m = m' + 1 := ⟨m - 1, by omega⟩
  show ok (f_M_takesE_b22 N (itr (LEf N) m) 133 a1 1 u) Q
  refine m_w1op h0 q (Or.inr hk) (fun x hx => ?_)
  refine m_b43 (c := 40) h0 q (by rw [hx, hk]) (Or.inr rfl) (PK_in (t := t) (by omega)) (by omega) (fun z qz => ?_)
  refine h N m f A cI w0 z a1 (40 :: S) O Q hN h0 h1 qz (by rw [opn40]; omega) (by omega) (Or.inr ⟨S, rfl⟩) (fun m' z' P o hm' hP ho' q' => ?_)
  have hin' := (q'.st h0).2.2.2.1
  obtain ⟨m', rfl⟩ : ∃ m'', m' = m'' + 1 := ⟨m' - 1, by omega⟩
  show ok (f_M_takesE_b22 N (itr (LEf N) m') 133 a1 0 z') Q
  exact m_b22end hN h0 h1 q' (Or.inr ⟨40, S, rfl, by decide, fun z => absurd z (by decide)⟩) hP he.2 (fun z => (by cases z)) (fun S' hS' z => absurd z he.1) (fun _ _ z2 hd2 hp2 => k2 rfl z2 hd2 hp2) (Or.inr ⟨S, rfl⟩)
theorem SF_deep (hk : PK t n i = 33 ∨ PK t n i = 40) (hd : d = 4) : SF t n d i false i [] := by
  intro N m f A cI w0 u a1 S O Q hN h0 h1 q ho hm k1 k2
  have hin := (q.st h0).2.2.2.1
  obtain ⟨m, rfl⟩ : ∃ m', m = m' + 1 := ⟨m - 1, by omega⟩
  have hl := lay_TX (q.st h0).1
  show ok (f_M_takesE_b22 N (itr (LEf N) m) 133 a1 1 u) Q
  refine m_w1op h0 q hk (fun x hx => ?_)
  unfold f_M_takesE_b43
  simp only [ok_gd, ok_bd, true_and, hl]
  have t4 : (4 : Int32).toInt = 4 := rfl
  exact ok_cdt (by rw [ti_eq, q.2.2.2.1, t4]; omega) (ok_ret.mpr (k2 rfl u q.1 q.2.1))
theorem wN_T {S : List Int} (h : tT S) : wN S = S ∧ nN S = [] := by
  rcases h with rfl | ⟨hd, S', rfl, h⟩
  · exact ⟨rfl, rfl⟩
  · have : hd ≠ 33 := by omega
    exact ⟨by simp [wN, this], by simp [nN, this]⟩
theorem stp_T {S : List Int} (h : tT S) : stp_ 38 S := by
  rcases h with rfl | ⟨hd, S', rfl, h⟩
  · exact Or.inl rfl
  · exact Or.inr ⟨hd, S', rfl, by omega, fun _ => rfl⟩
theorem stp_E {S : List Int} (h : tE S) : stp_ 124 S := by
  rcases h with rfl | ⟨S', rfl⟩
  · exact Or.inl rfl
  · exact Or.inr ⟨40, S', rfl, by decide, fun z => absurd z (by decide)⟩
theorem tE.T {S : List Int} (h : tE S) : tT S := by
  rcases h with rfl | ⟨S', rfl⟩
  · exact Or.inl rfl
  · exact Or.inr ⟨40, S', rfl, Or.inl rfl⟩
theorem ST_0 (h : SF t n d i true e ops) : STA t n d i e ops := by
  intro N m f A cI w0 u a1 S O Q hN h0 h1 q ho hm hS k1
  refine h N m f A cI w0 u a1 S O Q hN h0 h1 q ho hm (fun _ m' z hm' qz => ?_) (fun z => by cases z)
  rw [(wN_T hS).1, (wN_T hS).2, List.append_nil] at qz
  exact k1 m' z [] ops hm' (fun x hx => by cases hx) (by simp) qz
theorem ST_0f (h : SF t n d i false e ops) : STf t n d i e := by
  intro N m f A cI w0 u a1 S O Q hN h0 h1 q ho hm hS k1
  exact h N m f A cI w0 u a1 S O Q hN h0 h1 q ho hm (fun z => by cases z) (fun _ => k1)
/-- one more F behind a & -/
theorem ST_go {Q : Int32 → gW → Prop} {N m f A cI : Nat} {w0 u : gW} {a1 : Int32} {S O : List Int} (hN : 1000 ≤ N) (h0 : M0 t n w0 f A cI) (h1 : a1.toInt = (cI : Int)) (q : MX n w0 u f A cI S O i) (ho : opn S = d) (hm : 102 ≤ m + i) (hS : tT S) (h : STA t n d i e ops) (hk : PK t n e = 38) (g : SF t n d (e + 1) b e' ops')
    (k1 : b = true → ∀ (m' : Nat) (z : gW), 102 ≤ m' + e' → MX n w0 z f A cI ([38] ++ S) (O ++ (ops ++ ops')) e' → ok (runE N m' a1 0 z) Q) (k2 : b = false → ∀ z, MD w0 z A cI → (gI z 133 11).toInt = (e' : Int) → Q 0 z) : ok (runE N m a1 1 u) Q := by
  refine h N m f A cI w0 u a1 S O Q hN h0 h1 q ho hm hS (fun m' z P o hm' hP ho' q' => ?_)
  have hin' := (q'.st h0).2.2.2.1
  obtain ⟨m', rfl⟩ : ∃ m'', m' = m'' + 1 := ⟨m' - 1, by omega⟩
  show ok (f_M_takesE_b22 N (itr (LEf N) m') 133 a1 0 z) Q
  refine m_w0op h0 q' (Or.inl hk) (fun x hx => ?_)
  refine m_b122 (c := 38) hN h0 q' (by rw [hx, hk]) (Or.inl rfl) (PK_in (t := t) (by omega)) (stp_T hS) hP (fun z2 q2 => ?_)
  refine g N m' f A cI w0 z2 a1 (38 :: S) _ Q hN h0 h1 q2 (by rw [opn38]; omega) (by omega) (fun hb m2 z3 hm3 q3 => k1 hb m2 z3 hm3 ?_) k2
  have e1 : wN (38 :: S) = [38] ++ S := by simp [wN]
  have e2 : nN (38 :: S) = [] := by simp [nN]
  rw [e1, e2, List.append_nil] at q3
  rw [ho']
  simpa using q3
theorem ST_1 (h : STA t n d i e ops) (hk : PK t n e = 38) (g : SF t n d (e + 1) true e' ops') : STA t n d i e' (ops ++ ops' ++ [-38]) := by
  intro N m f A cI w0 u a1 S O Q hN h0 h1 q ho hm hS k1
  refine ST_go hN h0 h1 q ho hm hS h hk g (fun _ m' z hm' qz => ?_) (fun z => by cases z)
  exact k1 m' z [38] (ops ++ ops') hm' (fun x hx => by simp at hx; omega) (by simp) qz
theorem ST_1f (h : STA t n d i e ops) (hk : PK t n e = 38) (g : SF t n d (e + 1) false e' ops') : STf t n d i e' := by
  intro N m f A cI w0 u a1 S O Q hN h0 h1 q ho hm hS k1
  exact ST_go hN h0 h1 q ho hm hS h hk g (fun z => by cases z) (fun _ => k1)
theorem SE_0 (h : STA t n d i e ops) : SEA t n d i e ops := by
  intro N m f A cI w0 u a1 S O Q hN h0 h1 q ho hm hS k1
  exact h N m f A cI w0 u a1 S O Q hN h0 h1 q ho hm hS.T (fun m' z P o hm' hP ho' q' => k1 m' z P o hm' (fun x hx => (hP x hx).elim Or.inl (fun z => absurd rfl z.2)) ho' q')
theorem SE_0f (h : STf t n d i e) : SEf t n d i e := by
  intro N m f A cI w0 u a1 S O Q hN h0 h1 q ho hm hS k1
  exact h N m f A cI w0 u a1 S O Q hN h0 h1 q ho hm hS.T k1
/-- up to the T behind a | -/
theorem SE_go {Q : Int32 → gW → Prop} {N m f A cI : Nat} {w0 u : gW} {a1 : Int32} {S O : List Int} (hN : 1000 ≤ N) (h0 : M0 t n w0 f A cI) (h1 : a1.toInt = (cI : Int)) (q : MX n w0 u f A cI S O i) (ho : opn S = d) (hm : 102 ≤ m + i) (hS : tE S) (h : SEA t n d i e ops) (hk : PK t n e = 124)
    (k1 : ∀ (m' : Nat) (z : gW), 102 ≤ m' + (e + 1) → MX n w0 z f A cI (124 :: S) (O ++ ops) (e + 1) → ok (runE N m' a1 1 z) Q) : ok (runE N m a1 1 u) Q := by
  refine h N m f A cI w0 u a1 S O Q hN h0 h1 q ho hm hS (fun m' z P o hm' hP ho' q' => ?_)
  have hin' := (q'.st h0).2.2.2.1
  obtain ⟨m', rfl⟩ : ∃ m'', m' = m'' + 1 := ⟨m' - 1, by omega⟩
  show ok (f_M_takesE_b22 N (itr (LEf N) m') 133 a1 0 z) Q
  refine m_w0op h0 q' (Or.inr hk) (fun x hx => ?_)
  refine m_b122 (c := 124) hN h0 q' (by rw [hx, hk]) (Or.inr rfl) (PK_in (t := t) (by omega)) (stp_E hS) hP (fun z2 q2 => k1 m' z2 (by omega) ?_)
  rw [ho', ← List.append_assoc]
  exact q2
theorem SE_1 (h : SEA t n d i e ops) (hk : PK t n e = 124) (g : STA t n d (e + 1) e' ops') : SEA t n d i e' (ops ++ ops' ++ [-124]) := by
  intro N m f A cI w0 u a1 S O Q hN h0 h1 q ho hm hS k1
  refine SE_go hN h0 h1 q ho hm hS h hk (fun m' z hm' qz => ?_)
  refine g N m' f A cI w0 z a1 (124 :: S) _ Q hN h0 h1 qz (by rw [opn124]; omega) hm' (Or.inr ⟨124, S, rfl, Or.inr rfl⟩) (fun m2 z2 P o hm2 hP ho2 q2 => ?_)
  refine k1 m2 z2 (P ++ [124]) (ops ++ o) hm2 (fun x hx => ?_) (by rw [ho2]; simp) (by simpa using q2)
  rcases List.mem_append.mp hx with hx | hx
  · exact (hP x hx).elim Or.inl (fun z => absurd rfl z.2)
  · simp at hx; exact Or.inr ⟨hx, by decide⟩
theorem SE_1f (h : SEA t n d i e ops) (hk : PK t n e = 124) (g : STf t n d (e + 1) e') : SEf t n d i e' := by
  intro N m f A cI w0 u a1 S O Q hN h0 h1 q ho hm hS k1
  refine SE_go hN h0 h1 q ho hm hS h hk (fun m' z hm' qz => ?_)
  exact g N m' f A cI w0 z a1 (124 :: S) _ Q hN h0 h1 qz (by rw [opn124]; omega) hm' (Or.inr ⟨124, S, rfl, Or.inr rfl⟩) k1
end CLO
