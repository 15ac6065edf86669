/-! ===== a payment in the class: it stands at the best hand =====  -/
section CSTAND
variable {N : Nat} {w : gW} {y : List Nat} {b : Nat → Int}
set_option maxHeartbeats 1000000 in
theorem c_stand (hN : 1000 ≤ N) (hL : Lay w) (hy : y.length = 6) (h2y : h2 y) (hb : ∀ s, s < 6 → (gI w 70 s).toInt = gx y s ∧ (gI w 71 s).toInt = b s) :
    ok (f_Pm_standAtBest N 66 w) (fun _ u => Fr [68, 69] [(66, 8), (66, 9)] w u ∧ HS u y ∧ ∀ s, s < 6 → (gI u 69 s).toInt = b s) := by
  obtain ⟨p0, -⟩ := lay_P hL
  obtain ⟨S, S0, S1, S6, SB⟩ := sum6 (f := fun s => gx y s * wo s)
  obtain ⟨T, T0, T1, T6, TB⟩ := sum6 (f := fun s => gx y s)
  have eS : S 6 = hsum y := by rw [S6]; unfold hsum; simp only [wo]; omega
  have eT : T 6 = hcnt y := by rw [T6]; rfl
  unfold f_Pm_standAtBest f_Pm_standAtBest_b0 f_Pm_standAtBest_l12
  simp only [ok_gd, ok_bd, ok_rr1, ok_nr0, ok_nr1, ok_ret, true_and, and_true, not_false_eq_true, sh_sI, sh_sR, sh_sL, gR_sI, gR_sL, gI_sR, gI_sL, sh_cI, gR_cI, p0]
  refine itr_up (fun k q => q.1 = 66 ∧ q.2.1.toInt = (k : Int) ∧ Fr [68, 69] [(66, 8), (66, 9)] w q.2.2 ∧ (gI q.2.2 66 8).toInt = S k ∧ (gI q.2.2 66 9).toInt = T k ∧ ∀ j, j < k → (gI q.2.2 68 j).toInt = gx y j ∧ (gI q.2.2 69 j).toInt = b j) 6 ?_ ?_ N 0 _ (by omega) ?_ (by omega)
  · rintro rec k ⟨b0, a1, u⟩ hk ⟨e0, e1, f, e8, e9, hj⟩ IH
    simp only at e0 e1 f e8 e9 hj
    subst e0
    obtain ⟨p0, -, p1, p2, p3, p4, -, s68, s69, s70, s71⟩ := lay_P (f.lay hL)
    have n1 := nat_of e1
    have g1 := ix_of (m := 6) e1 hk
    rw [n1] at g1
    have k9 : k < 2147483647 := by omega
    have v70 : (gI u 70 k).toInt = gx y k := by rw [f.i ⟨by decide, by simp⟩]; exact (hb k hk).1
    have v71 : (gI u 71 k).toInt = b k := by rw [f.i ⟨by decide, by simp⟩]; exact (hb k hk).2
    have gk := h2y.g k
    have wi := wo_in (s := k)
    have ew := gWorth_i hk
    have SBk := SB 100 k (fun j _ => mul_in (h2y.g j) ⟨by have := wo_in (s := j); omega, (wo_in (s := j)).2⟩)
    have TBk := TB 2 k (fun j _ => h2y.g j)
    have mk : 0 ≤ gx y k * wo k ∧ gx y k * wo k ≤ 2 * 50 := mul_in gk ⟨by omega, wi.2⟩
    have m1 : (gI u 70 k * gWorth k).toInt = gx y k * wo k := by rw [ti_mul] <;> rw [v70, ew] <;> omega
    refine ok_cdf (by rw [ti_le, e1, ti_6]; omega) ?_
    simp (disch := decide) only [ok_gd, ok_bd, ok_rr1, ok_nr0, ok_nr1, ok_ret, true_and, and_true, not_false_eq_true, sh_sI, sh_sR, sh_sL, gR_sI, gR_sL, gI_sR, gI_sL, sh_cI, gR_cI, gI_eq, gI_ne, gI_nk, p0, p1, p2, p3, p4, s68, s69, s70, s71, n1, g1]
    have t8 : (gI u 66 8 + gI u 70 k * gWorth k).toInt = S (k + 1) := by rw [S1, ti_add] <;> rw [m1, e8] <;> omega
    have t9 : (gI u 66 9 + gI u 70 k).toInt = T (k + 1) := by rw [T1, ti_add] <;> rw [v70, e9] <;> omega
    clear m1
    refine IH _ ?_
    refine ⟨rfl, ti_p1 e1 k9, Fr_sI (Fr_sI (Fr_sI (Fr_sI f (by simp)) (by simp)) (by simp)) (by simp), ?_, ?_, fun j hj' => ⟨?_, ?_⟩⟩
    · simp only; rw [gI_nk (by decide), gI_eq]; exact t8
    · simp only; rw [gI_eq]; exact t9
    · simp only; rw [gI_ne (by decide), gI_ne (by decide), gI_ne (by decide), gI_sI]
      by_cases e : j = k
      · rw [if_pos ⟨rfl, e⟩, e]; exact v70
      · rw [if_neg (fun q => e q.2)]; exact (hj j (by omega)).1
    · simp only; rw [gI_ne (by decide), gI_ne (by decide), gI_sI]
      by_cases e : j = k
      · rw [if_pos ⟨rfl, e⟩, e]; exact v71
      · rw [if_neg (fun q => e q.2), gI_ne (by decide)]; exact (hj j (by omega)).2
  · rintro rec ⟨b0, a1, u⟩ ⟨e0, e1, f, e8, e9, hj⟩
    simp only at e0 e1 f e8 e9 hj
    subst e0
    refine ok_cdt (by rw [ti_le, e1, ti_6]; decide) ?_
    exact ok_ret.mpr ⟨f, ⟨hy, fun s hs => (hj s hs).1, by rw [e8, eS], by rw [e9, eT]⟩, fun s hs => (hj s hs).2⟩
  · refine ⟨rfl, rfl, Fr_sI (Fr_sI Fr.rf (by simp)) (by simp), ?_, ?_, fun j hj => absurd hj (by omega)⟩
    · simp only; rw [gI_nk (by decide), gI_eq, S0]; rfl
    · simp only; rw [gI_eq, T0]; rfl
end CSTAND
section HANDS
variable {L : List Cl} {pu ti : Nat → Int} {p kd pd : Nat} {bar price : Int} {x : List Nat}
abbrev hLL (L : List Cl) (pu ti : Nat → Int) (p kd pd : Nat) (bar : Int) : List (List Nat) := hl (l6f (limC L pu ti p kd pd bar))
theorem hLL_in (hw : WF L) (hl10 : L.length ≤ 10) (hp : ∀ s, s < 6 → 0 ≤ pu s) (hx : x ∈ hLL L pu ti p kd pd bar) : x.length = 6 ∧ h2 x ∧ ∀ s, s < 6 → 0 ≤ pu s - gx x s := by
  have h := hl_mem _ x hx
  have e : ∀ s, s < 6 → x.getD s 0 ≤ limC L pu ti p kd pd bar s := fun s hs => by have := h.2 s; rw [l6f_g hs] at this; exact this
  refine ⟨h.1, fun s => ?_, fun s hs => ?_⟩
  · by_cases hs : s < 6
    · exact Nat.le_trans (e s hs) (limC_in hw s)
    · have hz : x.getD s 0 = 0 := by
        rw [List.getD_eq_getElem?_getD, List.getElem?_eq_none (by rw [h.1]; show 6 ≤ s; omega)]; rfl
      rw [hz]; omega
  · have h1 := e s hs
    have h2 := hp s hs
    have h3 : 0 ≤ kpF L ti p kd pd s := (keptF_in hw hl10).1
    have h4 : (x.getD s 0 : Int) ≤ (limC L pu ti p kd pd bar s : Int) := by omega
    unfold limC limN at h4
    unfold gx
    split at h4 <;> omega
theorem bx_in (ht : ∀ s, s < 6 → 0 ≤ ti s ∧ ti s ≤ 99) (hx : h2 x) (hp : price ≤ hsum x) {s : Nat} (hs : s < 6) : 0 ≤ bx ti x price s ∧ bx ti x price s ≤ 101 := by
  have h1 : ∀ s, s < 6 → 0 ≤ tx ti x s := fun s h => by have := (ht s h); have := hx.g s; unfold tx; omega
  have h2 := bck_in (t := tx ti x) (D := hsum x - price) h1 (by omega) hs
  have h3 := ht s hs
  have h4 := hx.g s
  unfold bx
  unfold tx at h2 ⊢
  omega
theorem wgF_in (hw : WF L) (hl10 : L.length ≤ 10) (ht : ∀ s, s < 6 → 0 ≤ ti s ∧ ti s ≤ 99) (hp : ∀ s, s < 6 → 0 ≤ pu s ∧ pu s ≤ 99) (hx : h2 x) (hn : ∀ s, s < 6 → 0 ≤ pu s - gx x s) (hpr : price ≤ hsum x) : 0 ≤ wgF L pu ti price x ∧ wgF L pu ti price x ≤ 2000000 := by
  have k : ∀ s, s < 6 → 0 ≤ (pu s - gx x s + bx ti x price s) * heftF L s ∧ (pu s - gx x s + bx ti x price s) * heftF L s ≤ 200 * 990 := fun s hs => by
    have h1 := heftF_in (s := s) hw hl10 hs
    have h2 := bx_in ht hx hpr hs
    have h3 := hn s hs
    have h4 := hp s hs
    have h5 := hx.g s
    exact mul_in ⟨by omega, by omega⟩ h1
  have k0 := k 0 (by omega); have k1 := k 1 (by omega); have k2 := k 2 (by omega); have k3 := k 3 (by omega); have k4 := k 4 (by omega); have k5 := k 5 (by omega)
  unfold wgF wgt
  simp only
  omega
theorem rkF_in (hw : WF L) (hl10 : L.length ≤ 10) (ht : ∀ s, s < 6 → 0 ≤ ti s ∧ ti s ≤ 99) (hp : ∀ s, s < 6 → 0 ≤ pu s ∧ pu s ≤ 99) (hx : h2 x) (hn : ∀ s, s < 6 → 0 ≤ pu s - gx x s) (hpr : price ≤ hsum x) : -1000000 ≤ rkF kd price (wgF L pu ti price) x ∧ rkF kd price (wgF L pu ti price) x ≤ 2000000 := by
  have h1 := hx.sum
  have h2 := wgF_in hw hl10 ht hp hx hn hpr
  unfold rkF
  split
  · split <;> omega
  · split
    · omega
    · split
      · omega
      · split <;> omega
end HANDS
