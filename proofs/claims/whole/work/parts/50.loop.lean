/-! ===== loops; the places of a world, of a town ===== -/
theorem itr_up {α ρ : Type} {F : (α → Option (ρ × gW)) → α → Option (ρ × gW)} {Q : ρ → gW → Prop} (I : Nat → α → Prop) (M : Nat)
    (step : ∀ rec k q, k < M → I k q → (∀ q', I (k + 1) q' → ok (rec q') Q) → ok (F rec q) Q)
    (fin : ∀ rec q, I M q → ok (F rec q) Q) : ∀ (n k : Nat) (q : α), k ≤ M → I k q → M - k < n → ok (itr F n q) Q := by
  intro n
  induction n with
  | zero => intro k q _ _ h; omega
  | succ n ih =>
    intro k q hk hI hn
    rw [itr_s]
    by_cases e : k = M
    · subst e; exact fin _ _ hI
    · exact step _ k q (by omega) hI (fun q' h => ih (k + 1) q' (by omega) h (by omega))
/-- the same, with what is left as a list -/
theorem itr_li {α β ρ : Type} {F : (α → Option (ρ × gW)) → α → Option (ρ × gW)} {Q : ρ → gW → Prop} (I : List β → α → Prop)
    (step : ∀ rec x R q, I (x :: R) q → (∀ q', I R q' → ok (rec q') Q) → ok (F rec q) Q)
    (fin : ∀ rec q, I [] q → ok (F rec q) Q) : ∀ (R : List β) (n : Nat) (q : α), I R q → R.length < n → ok (itr F n q) Q := by
  intro R
  induction R with
  | nil =>
    intro n q hI hn
    obtain ⟨m, rfl⟩ : ∃ m, n = m + 1 := ⟨n - 1, by simp only [List.length_nil] at hn; omega⟩
    rw [itr_s]; exact fin _ _ hI
  | cons x R ih =>
    intro n q hI hn
    obtain ⟨m, rfl⟩ : ∃ m, n = m + 1 := ⟨n - 1, by omega⟩
    rw [itr_s]
    exact step _ x R q hI (fun q' h => ih m q' h (by simp only [List.length_cons] at hn; omega))
def isW (W : Nat) : Prop := W = 9 ∨ W = 47
def isT (tp : Nat) : Prop := tp = 1 ∨ ∃ i, i < 6 ∧ tp = 85 + 8 * i
section PLACES
variable {w : gW} {W tp p : Nat}
set_option maxRecDepth 20000 in
theorem lay_W (h : Lay w) (hW : isW W) : sh w W = (9, 0) ∧ gR w W 0 = some (W + 1) ∧ gR w W 2 = some (W + 2) ∧ gR w W 3 = some (W + 7) ∧ gR w W 4 = some (W + 12) ∧ gR w W 5 = some (W + 13) ∧ gR w W 6 = some (W + 14) ∧ gR w W 8 = some (W + 15) ∧ gR w W 9 = some (W + 16) ∧ gR w W 11 = some (W + 17) ∧ gR w W 12 = some (W + 18) ∧ sh w (W + 1) = (54, 4) ∧ sh w (W + 2) = (56, 4) ∧ sh w (W + 7) = (56, 4) ∧ sh w (W + 12) = (50, 4) ∧ sh w (W + 13) = (50, 6) ∧ sh w (W + 14) = (50, 4) ∧ sh w (W + 15) = (50, 4) ∧ sh w (W + 16) = (50, 4) ∧ sh w (W + 17) = (50, 8) ∧ sh w (W + 18) = (50, 8) := by
  rcases hW with rfl | rfl
  · exact ⟨h.1 9 (by decide), h.2.1 (9, 0, 10) (by decide), h.2.1 (9, 2, 11) (by decide), h.2.1 (9, 3, 16) (by decide), h.2.1 (9, 4, 21) (by decide), h.2.1 (9, 5, 22) (by decide), h.2.1 (9, 6, 23) (by decide), h.2.1 (9, 8, 24) (by decide), h.2.1 (9, 9, 25) (by decide), h.2.1 (9, 11, 26) (by decide), h.2.1 (9, 12, 27) (by decide), h.1 10 (by decide), h.1 11 (by decide), h.1 16 (by decide), h.1 21 (by decide), h.1 22 (by decide), h.1 23 (by decide), h.1 24 (by decide), h.1 25 (by decide), h.1 26 (by decide), h.1 27 (by decide)⟩
  · exact ⟨h.1 47 (by decide), h.2.1 (47, 0, 48) (by decide), h.2.1 (47, 2, 49) (by decide), h.2.1 (47, 3, 54) (by decide), h.2.1 (47, 4, 59) (by decide), h.2.1 (47, 5, 60) (by decide), h.2.1 (47, 6, 61) (by decide), h.2.1 (47, 8, 62) (by decide), h.2.1 (47, 9, 63) (by decide), h.2.1 (47, 11, 64) (by decide), h.2.1 (47, 12, 65) (by decide), h.1 48 (by decide), h.1 49 (by decide), h.1 54 (by decide), h.1 59 (by decide), h.1 60 (by decide), h.1 61 (by decide), h.1 62 (by decide), h.1 63 (by decide), h.1 64 (by decide), h.1 65 (by decide)⟩
set_option maxRecDepth 20000 in
theorem lay_Wp (h : Lay w) (hW : isW W) (hp : p < 4) : gR w (W + 2) p = some (W + 3 + p) ∧ sh w (W + 3 + p) = (50, 6) ∧ gR w (W + 7) p = some (W + 8 + p) ∧ sh w (W + 8 + p) = (50, 4) := by
  rcases hW with rfl | rfl
  · rcases in4 hp with rfl | rfl | rfl | rfl
    · exact ⟨h.2.1 (11, 0, 12) (by decide), h.1 12 (by decide), h.2.1 (16, 0, 17) (by decide), h.1 17 (by decide)⟩
    · exact ⟨h.2.1 (11, 1, 13) (by decide), h.1 13 (by decide), h.2.1 (16, 1, 18) (by decide), h.1 18 (by decide)⟩
    · exact ⟨h.2.1 (11, 2, 14) (by decide), h.1 14 (by decide), h.2.1 (16, 2, 19) (by decide), h.1 19 (by decide)⟩
    · exact ⟨h.2.1 (11, 3, 15) (by decide), h.1 15 (by decide), h.2.1 (16, 3, 20) (by decide), h.1 20 (by decide)⟩
  · rcases in4 hp with rfl | rfl | rfl | rfl
    · exact ⟨h.2.1 (49, 0, 50) (by decide), h.1 50 (by decide), h.2.1 (54, 0, 55) (by decide), h.1 55 (by decide)⟩
    · exact ⟨h.2.1 (49, 1, 51) (by decide), h.1 51 (by decide), h.2.1 (54, 1, 56) (by decide), h.1 56 (by decide)⟩
    · exact ⟨h.2.1 (49, 2, 52) (by decide), h.1 52 (by decide), h.2.1 (54, 2, 57) (by decide), h.1 57 (by decide)⟩
    · exact ⟨h.2.1 (49, 3, 53) (by decide), h.1 53 (by decide), h.2.1 (54, 3, 58) (by decide), h.1 58 (by decide)⟩
set_option maxRecDepth 20000 in
theorem lay_T (h : Lay w) (hT : isT tp) : sh w tp = (7, 0) ∧ gR w tp 0 = some (tp + 1) ∧ gR w tp 2 = some (tp + 2) ∧ gR w tp 3 = some (tp + 3) ∧ gR w tp 4 = some (tp + 4) ∧ gR w tp 5 = some (tp + 5) ∧ gR w tp 7 = some (tp + 6) ∧ gR w tp 9 = some (tp + 7) ∧ sh w (tp + 1) = (50, 6) ∧ sh w (tp + 2) = (50, 10) ∧ sh w (tp + 3) = (50, 10) ∧ sh w (tp + 4) = (50, 10) ∧ sh w (tp + 5) = (50, 10) ∧ sh w (tp + 6) = (50, 100) ∧ sh w (tp + 7) = (50, 6) := by
  rcases hT with rfl | ⟨i, hi, rfl⟩
  · exact ⟨h.1 1 (by decide), h.2.1 (1, 0, 2) (by decide), h.2.1 (1, 2, 3) (by decide), h.2.1 (1, 3, 4) (by decide), h.2.1 (1, 4, 5) (by decide), h.2.1 (1, 5, 6) (by decide), h.2.1 (1, 7, 7) (by decide), h.2.1 (1, 9, 8) (by decide), h.1 2 (by decide), h.1 3 (by decide), h.1 4 (by decide), h.1 5 (by decide), h.1 6 (by decide), h.1 7 (by decide), h.1 8 (by decide)⟩
  · rcases in6 hi with rfl | rfl | rfl | rfl | rfl | rfl
    · exact ⟨h.1 85 (by decide), h.2.1 (85, 0, 86) (by decide), h.2.1 (85, 2, 87) (by decide), h.2.1 (85, 3, 88) (by decide), h.2.1 (85, 4, 89) (by decide), h.2.1 (85, 5, 90) (by decide), h.2.1 (85, 7, 91) (by decide), h.2.1 (85, 9, 92) (by decide), h.1 86 (by decide), h.1 87 (by decide), h.1 88 (by decide), h.1 89 (by decide), h.1 90 (by decide), h.1 91 (by decide), h.1 92 (by decide)⟩
    · exact ⟨h.1 93 (by decide), h.2.1 (93, 0, 94) (by decide), h.2.1 (93, 2, 95) (by decide), h.2.1 (93, 3, 96) (by decide), h.2.1 (93, 4, 97) (by decide), h.2.1 (93, 5, 98) (by decide), h.2.1 (93, 7, 99) (by decide), h.2.1 (93, 9, 100) (by decide), h.1 94 (by decide), h.1 95 (by decide), h.1 96 (by decide), h.1 97 (by decide), h.1 98 (by decide), h.1 99 (by decide), h.1 100 (by decide)⟩
    · exact ⟨h.1 101 (by decide), h.2.1 (101, 0, 102) (by decide), h.2.1 (101, 2, 103) (by decide), h.2.1 (101, 3, 104) (by decide), h.2.1 (101, 4, 105) (by decide), h.2.1 (101, 5, 106) (by decide), h.2.1 (101, 7, 107) (by decide), h.2.1 (101, 9, 108) (by decide), h.1 102 (by decide), h.1 103 (by decide), h.1 104 (by decide), h.1 105 (by decide), h.1 106 (by decide), h.1 107 (by decide), h.1 108 (by decide)⟩
    · exact ⟨h.1 109 (by decide), h.2.1 (109, 0, 110) (by decide), h.2.1 (109, 2, 111) (by decide), h.2.1 (109, 3, 112) (by decide), h.2.1 (109, 4, 113) (by decide), h.2.1 (109, 5, 114) (by decide), h.2.1 (109, 7, 115) (by decide), h.2.1 (109, 9, 116) (by decide), h.1 110 (by decide), h.1 111 (by decide), h.1 112 (by decide), h.1 113 (by decide), h.1 114 (by decide), h.1 115 (by decide), h.1 116 (by decide)⟩
    · exact ⟨h.1 117 (by decide), h.2.1 (117, 0, 118) (by decide), h.2.1 (117, 2, 119) (by decide), h.2.1 (117, 3, 120) (by decide), h.2.1 (117, 4, 121) (by decide), h.2.1 (117, 5, 122) (by decide), h.2.1 (117, 7, 123) (by decide), h.2.1 (117, 9, 124) (by decide), h.1 118 (by decide), h.1 119 (by decide), h.1 120 (by decide), h.1 121 (by decide), h.1 122 (by decide), h.1 123 (by decide), h.1 124 (by decide)⟩
    · exact ⟨h.1 125 (by decide), h.2.1 (125, 0, 126) (by decide), h.2.1 (125, 2, 127) (by decide), h.2.1 (125, 3, 128) (by decide), h.2.1 (125, 4, 129) (by decide), h.2.1 (125, 5, 130) (by decide), h.2.1 (125, 7, 131) (by decide), h.2.1 (125, 9, 132) (by decide), h.1 126 (by decide), h.1 127 (by decide), h.1 128 (by decide), h.1 129 (by decide), h.1 130 (by decide), h.1 131 (by decide), h.1 132 (by decide)⟩
set_option maxRecDepth 20000 in
theorem lay_P (h : Lay w) : sh w 66 = (10, 0) ∧ gR w 66 0 = some 67 ∧ gR w 66 1 = some 68 ∧ gR w 66 2 = some 69 ∧ gR w 66 3 = some 70 ∧ gR w 66 4 = some 71 ∧ sh w 67 = (50, 6) ∧ sh w 68 = (50, 6) ∧ sh w 69 = (50, 6) ∧ sh w 70 = (50, 6) ∧ sh w 71 = (50, 6) := ⟨h.1 66 (by decide), h.2.1 (66, 0, 67) (by decide), h.2.1 (66, 1, 68) (by decide), h.2.1 (66, 2, 69) (by decide), h.2.1 (66, 3, 70) (by decide), h.2.1 (66, 4, 71) (by decide), h.1 67 (by decide), h.1 68 (by decide), h.1 69 (by decide), h.1 70 (by decide), h.1 71 (by decide)⟩
end PLACES
