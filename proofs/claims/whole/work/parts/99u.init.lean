/-! ===== the first Sim; by program ===== -/
theorem z_cnt : (gI iW 133 0).toInt = 0 ∧ (gI iW 133 51).toInt = 0 ∧ (gI iW 133 8).toInt = 0 := by decide +kernel
theorem z_len : ∀ t, t < 6 → (gI iW 179 t).toInt = 0 := by decide +kernel
theorem z_10 : ∀ p, p < 4 → gR iW 10 p = none := by decide +kernel
theorem z_29 : ∀ p, p < 4 → gR iW 29 p = none := by decide +kernel
theorem i_acnt : S_acnt iW := by unfold S_acnt eqC; decide +kernel
theorem i_acntr : S_acntr iW := by unfold S_acntr rgC; decide +kernel
theorem i_apyr : S_apyr iW := by
  intro p hp hl
  rw [z_cnt.1] at hl
  omega
theorem i_apyo : S_apyo iW := by
  intro p o hp ho
  rw [z_10 p hp] at ho
  cases ho
theorem i_aknd : S_aknd iW := by unfold S_aknd rgA; decide +kernel
theorem i_av : S_av iW := by unfold S_av rgA; decide +kernel
theorem i_apur : S_apur iW := by
  have h : ∀ p, p < 4 → ∀ k, k < 6 → gI iW (12 + p) k = gI iW 139 (6 * p + k) := by decide +kernel
  exact fun p k hp hk => h p hp k hk
theorem i_apurz : S_apurz iW := by
  have h : ∀ p, p < 4 → ∀ k, k < 6 → gI iW 139 (6 * p + k) = 0 := by decide +kernel
  exact fun p k hp hk _ => h p hp k hk
theorem i_apurr : S_apurr iW := by unfold S_apurr rgA; decide +kernel
theorem i_arow : S_arow iW := by
  have h : ∀ p, p < 4 → ∀ k, k < 4 → gI iW (17 + p) k = gI iW 138 (4 * p + k) := by decide +kernel
  exact fun p k hp hk => h p hp k hk
theorem i_arowz : S_arowz iW := by
  have h : ∀ p, p < 4 → ∀ k, k < 4 → gI iW 138 (4 * p + k) = 0 := by decide +kernel
  exact fun p k hp hk _ => h p hp k hk
theorem i_arowr : S_arowr iW := by unfold S_arowr rgA; decide +kernel
theorem i_apad : S_apad iW := by unfold S_apad eqA; decide +kernel
theorem i_apadz : S_apadz iW := by
  have h : ∀ p, p < 4 → ∀ k, k < 1 → gI iW 137 (1 * p + k) = 0 := by decide +kernel
  exact fun p k hp hk _ => h p hp k hk
theorem i_apadr : S_apadr iW := by unfold S_apadr rgA; decide +kernel
theorem i_atil : S_atil iW := by unfold S_atil eqA; decide +kernel
theorem i_atilr : S_atilr iW := by unfold S_atilr rgA; decide +kernel
theorem i_apri : S_apri iW := by unfold S_apri eqA; decide +kernel
theorem i_aprir : S_aprir iW := by unfold S_aprir rgA; decide +kernel
theorem i_aprc : S_aprc iW := by unfold S_aprc eqC; decide +kernel
theorem i_aprcr : S_aprcr iW := by unfold S_aprcr rgC; decide +kernel
theorem i_asp : S_asp iW := by unfold S_asp eqA; decide +kernel
theorem i_aspr : S_aspr iW := by unfold S_aspr rgA; decide +kernel
theorem i_asc : S_asc iW := by unfold S_asc eqA; decide +kernel
theorem i_asee : S_asee iW := by unfold S_asee eqC; decide +kernel
theorem i_aseer : S_aseer iW := by unfold S_aseer rgC; decide +kernel
theorem i_abw : S_abw iW := by unfold S_abw eqA; decide +kernel
theorem i_abwr : S_abwr iW := by unfold S_abwr rgA; decide +kernel
theorem i_abwl : S_abwl iW := by unfold S_abwl ltA; decide +kernel
theorem i_abp : S_abp iW := by unfold S_abp eqA; decide +kernel
theorem i_abpr : S_abpr iW := by unfold S_abpr rgA; decide +kernel
theorem i_abok : S_abok iW := by unfold S_abok eqC; decide +kernel
theorem i_abokr : S_abokr iW := by unfold S_abokr rgC; decide +kernel
theorem i_atwn : S_atwn iW := by unfold S_atwn twn; decide +kernel
theorem i_athe : S_athe iW := by unfold S_athe rgC; decide +kernel
theorem i_athel : S_athel iW := by unfold S_athel ltC; decide +kernel
theorem i_scnt : S_scnt iW := by unfold S_scnt eqC; decide +kernel
theorem i_scntr : S_scntr iW := by unfold S_scntr rgC; decide +kernel
theorem i_spyr : S_spyr iW := by
  intro p hp hl
  rw [z_cnt.2.1] at hl
  omega
theorem i_spyo : S_spyo iW := by
  intro p o hp ho
  rw [z_29 p hp] at ho
  cases ho
theorem i_sknd : S_sknd iW := by unfold S_sknd rgA; decide +kernel
theorem i_sv : S_sv iW := by unfold S_sv rgA; decide +kernel
theorem i_spur : S_spur iW := by
  have h : ∀ p, p < 4 → ∀ k, k < 6 → gI iW (31 + p) k = gI iW 170 (6 * p + k) := by decide +kernel
  exact fun p k hp hk => h p hp k hk
theorem i_spurz : S_spurz iW := by
  have h : ∀ p, p < 4 → ∀ k, k < 6 → gI iW 170 (6 * p + k) = 0 := by decide +kernel
  exact fun p k hp hk _ => h p hp k hk
theorem i_spurr : S_spurr iW := by unfold S_spurr rgA; decide +kernel
theorem i_srow : S_srow iW := by
  have h : ∀ p, p < 4 → ∀ k, k < 4 → gI iW (36 + p) k = gI iW 169 (4 * p + k) := by decide +kernel
  exact fun p k hp hk => h p hp k hk
theorem i_srowz : S_srowz iW := by
  have h : ∀ p, p < 4 → ∀ k, k < 4 → gI iW 169 (4 * p + k) = 0 := by decide +kernel
  exact fun p k hp hk _ => h p hp k hk
theorem i_srowr : S_srowr iW := by unfold S_srowr rgA; decide +kernel
theorem i_spad : S_spad iW := by unfold S_spad eqA; decide +kernel
theorem i_spadz : S_spadz iW := by
  have h : ∀ p, p < 4 → ∀ k, k < 1 → gI iW 168 (1 * p + k) = 0 := by decide +kernel
  exact fun p k hp hk _ => h p hp k hk
theorem i_spadr : S_spadr iW := by unfold S_spadr rgA; decide +kernel
theorem i_stil : S_stil iW := by unfold S_stil eqA; decide +kernel
theorem i_stilr : S_stilr iW := by unfold S_stilr rgA; decide +kernel
theorem i_spri : S_spri iW := by unfold S_spri eqA; decide +kernel
theorem i_sprir : S_sprir iW := by unfold S_sprir rgA; decide +kernel
theorem i_sprc : S_sprc iW := by unfold S_sprc eqC; decide +kernel
theorem i_sprcr : S_sprcr iW := by unfold S_sprcr rgC; decide +kernel
theorem i_ssp : S_ssp iW := by unfold S_ssp eqA; decide +kernel
theorem i_sspr : S_sspr iW := by unfold S_sspr rgA; decide +kernel
theorem i_ssc : S_ssc iW := by unfold S_ssc eqA; decide +kernel
theorem i_ssee : S_ssee iW := by unfold S_ssee eqC; decide +kernel
theorem i_sseer : S_sseer iW := by unfold S_sseer rgC; decide +kernel
theorem i_sbw : S_sbw iW := by unfold S_sbw eqA; decide +kernel
theorem i_sbwr : S_sbwr iW := by unfold S_sbwr rgA; decide +kernel
theorem i_sbwl : S_sbwl iW := by unfold S_sbwl ltA; decide +kernel
theorem i_sbp : S_sbp iW := by unfold S_sbp eqA; decide +kernel
theorem i_sbpr : S_sbpr iW := by unfold S_sbpr rgA; decide +kernel
theorem i_sbok : S_sbok iW := by unfold S_sbok eqC; decide +kernel
theorem i_sbokr : S_sbokr iW := by unfold S_sbokr rgC; decide +kernel
theorem i_stwn : S_stwn iW := by unfold S_stwn twn; decide +kernel
theorem i_sthe : S_sthe iW := by unfold S_sthe rgC; decide +kernel
theorem i_sthel : S_sthel iW := by unfold S_sthel ltC; decide +kernel
theorem i_img : S_img iW := by unfold S_img eqC; decide +kernel
theorem i_imgr : S_imgr iW := by unfold S_imgr rgC; decide +kernel
theorem i_tws : S_tws iW := by unfold S_tws eqC; decide +kernel
theorem i_twsr : S_twsr iW := by unfold S_twsr rgC; decide +kernel
theorem i_txt : S_txt iW := by unfold S_txt eqA; decide +kernel
theorem i_txtr : S_txtr iW := by unfold S_txtr rgA; decide +kernel
theorem i_fed : S_fed iW := by unfold S_fed eqC; decide +kernel
theorem i_fedr : S_fedr iW := by unfold S_fedr rgC; decide +kernel
theorem i_bod : S_bod iW := by unfold S_bod eqA; decide +kernel
theorem i_ran : S_ran iW := by unfold S_ran eqC; decide +kernel
theorem i_ranr : S_ranr iW := by unfold S_ranr rgC; decide +kernel
theorem i_srt : S_srt iW := by unfold S_srt eqA; decide +kernel
theorem i_srtr : S_srtr iW := by unfold S_srtr rgA; decide +kernel
theorem i_len : S_len iW := by unfold S_len eqA; decide +kernel
theorem i_lenr : S_lenr iW := by unfold S_lenr rgA; decide +kernel
theorem i_lnz : S_lnz iW := by unfold S_lnz nzr; decide +kernel
theorem i_itm : S_itm iW := by
  intro t k ht hk hl
  rw [z_len t ht] at hl
  omega
theorem i_wor : S_wor iW := by unfold S_wor wrt; decide +kernel
theorem i_let : S_let iW := by unfold S_let ltr; decide +kernel
theorem i_TW : TW iW 1 [] := by
  have h1 : (gI iW 1 6).toInt = 0 ∧ (gI iW 1 1).toInt = 2 := by decide +kernel
  have h2 : ∀ s, s < 6 → (gI iW 2 s).toInt = (s : Int) + 2 := by decide +kernel
  exact ⟨h1.1, trivial, fun x hx => (by cases hx), by simp, h1.2, h2⟩
theorem i_Sim : Sim iW := ⟨⟨t_lay1, t_lay2, t_lay3⟩, ⟨i_acnt, i_acntr, i_apyr, i_apyo, i_aknd, i_av, i_apur, i_apurz, i_apurr, i_arow, i_arowz, i_arowr, i_apad, i_apadz, i_apadr, i_atil, i_atilr, i_apri, i_aprir, i_aprc, i_aprcr, i_asp, i_aspr, i_asc, i_asee, i_aseer, i_abw, i_abwr, i_abwl, i_abp, i_abpr, i_abok, i_abokr, i_atwn, i_athe, i_athel, i_scnt, i_scntr, i_spyr, i_spyo, i_sknd, i_sv, i_spur, i_spurz, i_spurr, i_srow, i_srowz, i_srowr, i_spad, i_spadz, i_spadr, i_stil, i_stilr, i_spri, i_sprir, i_sprc, i_sprcr, i_ssp, i_sspr, i_ssc, i_ssee, i_sseer, i_sbw, i_sbwr, i_sbwl, i_sbp, i_sbpr, i_sbok, i_sbokr, i_stwn, i_sthe, i_sthel, i_img, i_imgr, i_tws, i_twsr, i_txt, i_txtr, i_fed, i_fedr, i_bod, i_ran, i_ranr, i_srt, i_srtr, i_len, i_lenr, i_lnz, i_itm, i_wor, i_let⟩, i_TW, fun f _ hl => by
  rw [z_cnt.2.2] at hl
  omega⟩
theorem b_X : f_X_init 1000 0 (nw gW0 11 0) = some ((), iXw) := by
  have h := t_1
  unfold iXw
  show iX = _
  generalize iX = o at h
  cases o with
  | none => cases h
  | some q => rfl
theorem b_M : f_M_init 1000 133 (nw iXw 12 0) = some ((), iW) := by
  have h := t_2
  unfold iW
  show iM = _
  generalize iM = o at h
  cases o with
  | none => cases h
  | some q => rfl
theorem b_nx : nx iXw = 133 := by decide +kernel
