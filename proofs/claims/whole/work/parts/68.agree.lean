/-! ===== class and model choose the same hand =====  -/
section AGREE
variable {p kd v pd : Nat} {pu ti ro : Nat → Int} {L : List Cl} {price bar : Int}
theorem limC_set (hb : 0 ≤ bar ∧ bar < 6) : l6f (limC L pu ti p kd pd bar) = (l6f (limC L pu ti p kd pd (-1))).set bar.toNat 0 := by
  obtain ⟨k, hk⟩ : ∃ k : Nat, bar = (k : Int) := ⟨bar.toNat, by omega⟩
  subst hk
  rw [Int.toNat_natCast]
  have h6 : k < 6 := by omega
  rcases in6 h6 with rfl | rfl | rfl | rfl | rfl | rfl <;> simp [l6f, limC]
theorem barF_in (hr : ∀ k, k < 4 → 0 ≤ ro k ∧ ro k ≤ 5) : barF kd v pd ro = -1 ∨ (0 ≤ barF kd v pd ro ∧ barF kd v pd ro < 6) := by
  unfold barF
  by_cases h3 : kd = 3
  · rw [if_pos h3]; have : v % 6 < 6 := Nat.mod_lt _ (by omega); omega
  · rw [if_neg h3]
    by_cases h6 : kd = 6
    · rw [if_pos h6]; have := hr (pd % 4) (Nat.mod_lt _ (by omega)); omega
    · rw [if_neg h6]; omega
theorem rk_bm {x y : List Nat} {wg : List Nat → Int} (hx : h2 x) (hy : h2 y) (h1 : 0 ≤ price) (px : price ≤ hsum x) (py : price ≤ hsum y) : rkF kd price wg x < rkF kd price wg y ↔ bmF kd price wg x < bmF kd price wg y := by
  have a := hx.sum
  have b := hy.sum
  unfold rkF bmF bdF
  by_cases k1 : kd = 1
  · subst k1
    rw [if_pos rfl, if_pos rfl]
    by_cases ex : hsum x = price <;> by_cases ey : hsum y = price <;> simp only [ex, ey, true_and, if_true, if_false, and_self, and_false, and_true] <;> (try rw [if_neg (by omega)]) <;> (try rw [if_neg (by omega)]) <;> (try rw [if_neg (by omega)]) <;> (try rw [if_neg (by omega)]) <;> (try rw [if_neg (by omega)]) <;> (try rw [if_neg (by omega)]) <;> omega
  · by_cases k2 : kd = 2
    · simp only [eq_false k1, eq_true k2, false_and, if_true, if_false]; omega
    · by_cases k4 : kd = 4
      · simp only [eq_false k1, eq_false k2, eq_true k4, false_and, if_true, if_false]
      · by_cases k5 : kd = 5
        · simp only [eq_false k1, eq_false k2, eq_false k4, eq_true k5, false_and, if_true, if_false]; omega
        · simp only [eq_false k1, eq_false k2, eq_false k4, eq_false k5, false_and, if_true, if_false]; omega
/-- the hand that one hands over -/
noncomputable def chS (L : List Cl) (p kd v pd : Nat) (pu ti ro : Nat → Int) (price : Int) : Option (List Nat) := bst (payA pu ti price) (rkF kd price (wgF L pu ti price)) (hLL L pu ti p kd pd (barF kd v pd ro)) none
theorem ch_eq (hw : WF L) (hl10 : L.length ≤ 10) (hp : ∀ s, s < 6 → 0 ≤ pu s) (hr : ∀ k, k < 4 → 0 ≤ ro k ∧ ro k ≤ 5) (h1 : 0 ≤ price) :
    bst (fun x => payA pu ti price x ∧ ¬ brd (barF kd v pd ro) x) (bmF kd price (wgF L pu ti price)) (hLL L pu ti p kd pd (-1)) none = chS L p kd v pd pu ti ro price := by
  unfold chS
  have key : ∀ (P : List Nat → Prop), (∀ x, x ∈ hLL L pu ti p kd pd (-1) → (P x ↔ payA pu ti price x ∧ ¬ brd (barF kd v pd ro) x)) → bst P (rkF kd price (wgF L pu ti price)) (hLL L pu ti p kd pd (-1)) none = bst (fun x => payA pu ti price x ∧ ¬ brd (barF kd v pd ro) x) (bmF kd price (wgF L pu ti price)) (hLL L pu ti p kd pd (-1)) none := fun P hP =>
    bst_rk (K := fun x => x ∈ hLL L pu ti p kd pd (-1)) hP (fun x y hx hy px py => rk_bm (hLL_in hw hl10 hp hx).2.1 (hLL_in hw hl10 hp hy).2.1 h1 ((hP x hx).mp px).1.1 ((hP y hy).mp py).1.1) _ none (fun x hx => hx) (fun y hy => by cases hy)
  rcases barF_in (kd := kd) (v := v) (pd := pd) hr with hb | hb
  · rw [hb] at key ⊢
    refine (key _ (fun x _ => ⟨fun h => ⟨h, fun z => ?_⟩, fun h => h.1⟩)).symm
    have := z.1; omega
  · generalize barF kd v pd ro = bar at *
    have e : hLL L pu ti p kd pd bar = (hLL L pu ti p kd pd (-1)).filter (fun x => x.getD bar.toNat 0 == 0) := by
      unfold hLL; rw [limC_set hb, hl_bar]
    rw [e, bst_filter]
    refine (key _ (fun x _ => ?_)).symm
    constructor
    · rintro ⟨h, g⟩
      refine ⟨h, fun z => ?_⟩
      have g' : x.getD bar.toNat 0 = 0 := by simpa using g
      have := z.2; unfold gx at this; omega
    · rintro ⟨h, g⟩
      refine ⟨h, ?_⟩
      have : x.getD bar.toNat 0 = 0 := by
        unfold brd gx at g
        omega
      simp only [this, beq_self_eq_true]
theorem chS_in {y : List Nat} (h : chS L p kd v pd pu ti ro price = some y) : y ∈ hLL L pu ti p kd pd (barF kd v pd ro) ∧ payA pu ti price y := by
  rcases bst_mem _ _ _ h with g | g
  · cases g
  · exact g
end AGREE
