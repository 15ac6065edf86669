/-! ===== image and undo: the pieces of Sim; by program (img.py) ===== -/
section TP
variable {w z : gW} {a b c i j e f n m mk mv a' b' c' i' j' e' f' m' mk' mv' : Nat} {lo hi : Int}
theorem eqA.tp (q : eqA a b n w) (h1 : ∀ k, k < n → gI z a' k = gI w a k) (h2 : ∀ k, k < n → gI z b' k = gI w b k) : eqA a' b' n z := fun k hk => by rw [h1 k hk, h2 k hk]; exact q k hk
theorem eqC.tp (q : eqC a i b j w) (h1 : gI z a' i' = gI w a i) (h2 : gI z b' j' = gI w b j) : eqC a' i' b' j' z := by unfold eqC; rw [h1, h2]; exact q
theorem rgA.tp (q : rgA a n lo hi w) (h1 : ∀ k, k < n → gI z a' k = gI w a k) : rgA a' n lo hi z := fun k hk => by rw [h1 k hk]; exact q k hk
theorem rgC.tp (q : rgC a i lo hi w) (h1 : gI z a' i' = gI w a i) : rgC a' i' lo hi z := by unfold rgC; rw [h1]; exact q
theorem ltC.tp (q : ltC a i b j w) (h1 : gI z a' i' = gI w a i) (h2 : gI z b' j' = gI w b j) : ltC a' i' b' j' z := by unfold ltC; rw [h1, h2]; exact q
theorem ltA.tp (q : ltA a n b j e f w) (h1 : ∀ k, k < n → gI z a' k = gI w a k) (h2 : gI z b' j' = gI w b j) (h3 : gI z e' f' = gI w e f) : ltA a' n b' j' e' f' z := fun k hk hl => by
  rw [h3] at hl
  rw [h1 k hk, h2]; exact q k hk hl
theorem grd.tp (q : grd b m n w) (h1 : ∀ p k, p < 4 → k < n → gI z (b' + p) k = gI w (b + p) k) (h2 : ∀ k, k < n * 4 → gI z m' k = gI w m k) : grd b' m' n z := fun p k hp hk => by
  have : n * p + n ≤ n * 4 := by rw [← Nat.mul_succ]; exact Nat.mul_le_mul_left n hp
  rw [h1 p k hp hk, h2 _ (by omega)]; exact q p k hp hk
theorem zer.tp (q : zer a i m n w) (h1 : gI z a' i' = gI w a i) (h2 : ∀ k, k < n * 4 → gI z m' k = gI w m k) : zer a' i' m' n z := fun p k hp hk hl => by
  have : n * p + n ≤ n * 4 := by rw [← Nat.mul_succ]; exact Nat.mul_le_mul_left n hp
  rw [h1] at hl
  rw [h2 _ (by omega)]; exact q p k hp hk hl
theorem pyr.tp (q : pyr a c i mk mv w) (hn : nx z = nx w) (hs : ∀ o, sh z o = sh w o) (ho : ∀ o k, 182 ≤ o → gI z o k = gI w o k) (h1 : ∀ p, p < 4 → gR z a' p = gR w a p) (h2 : gI z c' i' = gI w c i) (h3 : ∀ k, k < 4 → gI z mk' k = gI w mk k) (h4 : ∀ k, k < 4 → gI z mv' k = gI w mv k) : pyr a' c' i' mk' mv' z := fun p hp hl => by
  rw [h2] at hl
  obtain ⟨o, g1, g2, g3, g4⟩ := q p hp hl
  refine ⟨o, by rw [h1 p hp]; exact g1, g2, by rw [hn]; exact g3, ?_⟩
  rw [hs, h3 p hp, h4 p hp, ho o 0 g2, ho o 1 g2, ho o 2 g2]
  exact g4
theorem pyo.tp (q : pyo a w) (hn : nx z = nx w) (hs : ∀ o, sh z o = sh w o) (h1 : ∀ p, p < 4 → gR z a' p = gR w a p) : pyo a' z := fun p o hp ho => by
  rw [h1 p hp] at ho
  rw [hn, hs]; exact q p o hp ho
theorem twn.tp (q : twn a i b j w) (h1 : gR z a' i' = gR w a i) (h2 : gI z b' j' = gI w b j) : twn a' i' b' j' z := by unfold twn; rw [h1, h2]; exact q
end TP
set_option maxRecDepth 20000 in
set_option maxHeartbeats 2000000 in
theorem Sim.u_image {w z : gW} (h : Sim w) (f : Fr [28, 29, 31, 32, 33, 34, 36, 37, 38, 39, 40, 41, 42, 43, 44, 45, 46, 166, 167, 168, 169, 170, 171, 172, 173, 174, 175, 176] [(0, 4), (133, 49), (133, 50), (133, 51), (133, 52), (133, 53), (133, 54)] w z) (hb : bcP w z 9 28 4) (hr : bcR w z 9 28) (m_mk : ∀ k, k < 4 → gI z 166 k = gI w 135 k) (m_mv : ∀ k, k < 4 → gI z 167 k = gI w 136 k) (m_mpd : ∀ k, k < 4 → gI z 168 k = gI w 137 k) (m_mrw : ∀ k, k < 16 → gI z 169 k = gI w 138 k) (m_mpu : ∀ k, k < 24 → gI z 170 k = gI w 139 k) (m_mti : ∀ k, k < 6 → gI z 171 k = gI w 140 k) (m_mpr : ∀ k, k < 4 → gI z 172 k = gI w 161 k) (m_msp : ∀ k, k < 4 → gI z 173 k = gI w 162 k) (m_msc : ∀ k, k < 4 → gI z 174 k = gI w 163 k) (m_mbw : ∀ k, k < 8 → gI z 175 k = gI w 164 k) (m_mbp : ∀ k, k < 8 → gI z 176 k = gI w 165 k) (c_the : gI z 133 50 = gI w 133 9) (c_cnt : gI z 133 51 = gI w 133 0) (c_prc : gI z 133 52 = gI w 133 41) (c_see : gI z 133 53 = gI w 133 43) (c_bok : gI z 133 54 = gI w 133 46) (g_img : gI z 0 4 = 1 ∧ gI z 133 49 = 1) : Sim z := by
  obtain ⟨r1, r2, r3, r4, r5, r6, d1, d7, d10, d13, d14⟩ := hr
  have e1 : ∀ p, p < 4 → gR z 29 p = gR w 10 p := fun p hp => (hb p hp).1
  have e12 : ∀ p, p < 4 → gI z 40 p = gI w 21 p := fun p hp => (hb p hp).2.1
  have e3 : ∀ p k, p < 4 → k < 6 → gI z (31 + p) k = gI w (12 + p) k := fun p k hp hk => (hb p hp).2.2.1 k hk
  have e8 : ∀ p k, p < 4 → k < 4 → gI z (36 + p) k = gI w (17 + p) k := fun p k hp hk => (hb p hp).2.2.2 k hk
  have ho : ∀ o k, 182 ≤ o → gI z o k = gI w o k := fun o k ho => f.i ⟨by simp only [List.mem_cons, List.not_mem_nil, or_false]; omega, fun c hc e => by simp only [List.mem_cons, List.not_mem_nil, or_false] at hc; rcases hc with rfl | rfl | rfl | rfl | rfl | rfl | rfl <;> simp at e <;> omega⟩
  have c8 : gI z 133 8 = gI w 133 8 := f.c (by decide)
  exact ⟨f.lay h.1, ⟨(S_acnt.fr f (by decide) (by decide) h.2.1.acnt),
    (S_acntr.fr f (by decide) h.2.1.acntr),
    (S_apyr.fr f (by decide) (by decide) (by decide) (by decide) (by decide) (by decide) h.2.1.apyr),
    (S_apyo.fr f (by decide) h.2.1.apyo),
    (S_aknd.fr f (by decide) h.2.1.aknd),
    (S_av.fr f (by decide) h.2.1.av),
    (S_apur.fr f (by decide) (by decide) (by decide) (by decide) (by decide) h.2.1.apur),
    (S_apurz.fr f (by decide) (by decide) h.2.1.apurz),
    (S_apurr.fr f (by decide) h.2.1.apurr),
    (S_arow.fr f (by decide) (by decide) (by decide) (by decide) (by decide) h.2.1.arow),
    (S_arowz.fr f (by decide) (by decide) h.2.1.arowz),
    (S_arowr.fr f (by decide) h.2.1.arowr),
    (S_apad.fr f (by decide) (by decide) h.2.1.apad),
    (S_apadz.fr f (by decide) (by decide) h.2.1.apadz),
    (S_apadr.fr f (by decide) h.2.1.apadr),
    (S_atil.fr f (by decide) (by decide) h.2.1.atil),
    (S_atilr.fr f (by decide) h.2.1.atilr),
    (S_apri.fr f (by decide) (by decide) h.2.1.apri),
    (S_aprir.fr f (by decide) h.2.1.aprir),
    (S_aprc.fr f (by decide) (by decide) h.2.1.aprc),
    (S_aprcr.fr f (by decide) h.2.1.aprcr),
    (S_asp.fr f (by decide) (by decide) h.2.1.asp),
    (S_aspr.fr f (by decide) h.2.1.aspr),
    (S_asc.fr f (by decide) (by decide) h.2.1.asc),
    (S_asee.fr f (by decide) (by decide) h.2.1.asee),
    (S_aseer.fr f (by decide) h.2.1.aseer),
    (S_abw.fr f (by decide) (by decide) h.2.1.abw),
    (S_abwr.fr f (by decide) h.2.1.abwr),
    (S_abwl.fr f (by decide) (by decide) (by decide) h.2.1.abwl),
    (S_abp.fr f (by decide) (by decide) h.2.1.abp),
    (S_abpr.fr f (by decide) h.2.1.abpr),
    (S_abok.fr f (by decide) (by decide) h.2.1.abok),
    (S_abokr.fr f (by decide) h.2.1.abokr),
    (S_atwn.fr f (by decide) (by decide) h.2.1.atwn),
    (S_athe.fr f (by decide) h.2.1.athe),
    (S_athel.fr f (by decide) (by decide) h.2.1.athel),
    (eqC.tp h.2.1.acnt d1 c_cnt),
    (rgC.tp h.2.1.acntr c_cnt),
    (pyr.tp h.2.1.apyr f.1 (fun _ => f.s) ho e1 c_cnt m_mk m_mv),
    (pyo.tp h.2.1.apyo f.1 (fun _ => f.s) e1),
    (rgA.tp h.2.1.aknd m_mk),
    (rgA.tp h.2.1.av m_mv),
    (grd.tp h.2.1.apur e3 m_mpu),
    (zer.tp h.2.1.apurz c_cnt m_mpu),
    (rgA.tp h.2.1.apurr m_mpu),
    (grd.tp h.2.1.arow e8 m_mrw),
    (zer.tp h.2.1.arowz c_cnt m_mrw),
    (rgA.tp h.2.1.arowr m_mrw),
    (eqA.tp h.2.1.apad e12 m_mpd),
    (zer.tp h.2.1.apadz c_cnt (fun k hk => m_mpd k (by omega))),
    (rgA.tp h.2.1.apadr m_mpd),
    (eqA.tp h.2.1.atil r1 m_mti),
    (rgA.tp h.2.1.atilr m_mti),
    (eqA.tp h.2.1.apri r2 m_mpr),
    (rgA.tp h.2.1.aprir m_mpr),
    (eqC.tp h.2.1.aprc d7 c_prc),
    (rgC.tp h.2.1.aprcr c_prc),
    (eqA.tp h.2.1.asp r3 m_msp),
    (rgA.tp h.2.1.aspr m_msp),
    (eqA.tp h.2.1.asc r4 m_msc),
    (eqC.tp h.2.1.asee d10 c_see),
    (rgC.tp h.2.1.aseer c_see),
    (eqA.tp h.2.1.abw r5 m_mbw),
    (rgA.tp h.2.1.abwr m_mbw),
    (ltA.tp h.2.1.abwl m_mbw c_cnt c_bok),
    (eqA.tp h.2.1.abp r6 m_mbp),
    (rgA.tp h.2.1.abpr m_mbp),
    (eqC.tp h.2.1.abok d13 c_bok),
    (rgC.tp h.2.1.abokr c_bok),
    (twn.tp h.2.1.atwn d14 c_the),
    (rgC.tp h.2.1.athe c_the),
    (ltC.tp h.2.1.athel c_the c8),
    (by unfold S_img eqC; rw [g_img.1, g_img.2]),
    (by unfold S_imgr rgC; rw [g_img.2]; decide),
    (S_tws.fr f (by decide) (by decide) h.2.1.tws),
    (S_twsr.fr f (by decide) h.2.1.twsr),
    (S_txt.fr f (by decide) (by decide) h.2.1.txt),
    (S_txtr.fr f (by decide) h.2.1.txtr),
    (S_fed.fr f (by decide) (by decide) h.2.1.fed),
    (S_fedr.fr f (by decide) h.2.1.fedr),
    (S_bod.fr f (by decide) (by decide) h.2.1.bod),
    (S_ran.fr f (by decide) (by decide) h.2.1.ran),
    (S_ranr.fr f (by decide) h.2.1.ranr),
    (S_srt.fr f (by decide) (by decide) h.2.1.srt),
    (S_srtr.fr f (by decide) h.2.1.srtr),
    (S_len.fr f (by decide) (by decide) h.2.1.len),
    (S_lenr.fr f (by decide) h.2.1.lenr),
    (S_lnz.fr f (by decide) (by decide) h.2.1.lnz),
    (S_itm.fr f (by decide) (by decide) (by decide) (by decide) (by decide) (by decide) (by decide) (by decide) h.2.1.itm),
    (S_wor.fr f (by decide) h.2.1.wor),
    (S_let.fr f (by decide) h.2.1.let)⟩, SimB.fr f (by decide) (by decide) h.2.2⟩
set_option maxRecDepth 20000 in
set_option maxHeartbeats 2000000 in
theorem Sim.u_undo {w z : gW} (h : Sim w) (f : Fr [9, 10, 12, 13, 14, 15, 17, 18, 19, 20, 21, 22, 23, 24, 25, 26, 27, 135, 136, 137, 138, 139, 140, 161, 162, 163, 164, 165] [(133, 9), (133, 0), (133, 41), (133, 43), (133, 46)] w z) (hb : bcP w z 28 9 4) (hr : bcR w z 28 9) (m_mk : ∀ k, k < 4 → gI z 135 k = gI w 166 k) (m_mv : ∀ k, k < 4 → gI z 136 k = gI w 167 k) (m_mpd : ∀ k, k < 4 → gI z 137 k = gI w 168 k) (m_mrw : ∀ k, k < 16 → gI z 138 k = gI w 169 k) (m_mpu : ∀ k, k < 24 → gI z 139 k = gI w 170 k) (m_mti : ∀ k, k < 6 → gI z 140 k = gI w 171 k) (m_mpr : ∀ k, k < 4 → gI z 161 k = gI w 172 k) (m_msp : ∀ k, k < 4 → gI z 162 k = gI w 173 k) (m_msc : ∀ k, k < 4 → gI z 163 k = gI w 174 k) (m_mbw : ∀ k, k < 8 → gI z 164 k = gI w 175 k) (m_mbp : ∀ k, k < 8 → gI z 165 k = gI w 176 k) (c_the : gI z 133 9 = gI w 133 50) (c_cnt : gI z 133 0 = gI w 133 51) (c_prc : gI z 133 41 = gI w 133 52) (c_see : gI z 133 43 = gI w 133 53) (c_bok : gI z 133 46 = gI w 133 54) : Sim z := by
  obtain ⟨r1, r2, r3, r4, r5, r6, d1, d7, d10, d13, d14⟩ := hr
  have e1 : ∀ p, p < 4 → gR z 10 p = gR w 29 p := fun p hp => (hb p hp).1
  have e12 : ∀ p, p < 4 → gI z 21 p = gI w 40 p := fun p hp => (hb p hp).2.1
  have e3 : ∀ p k, p < 4 → k < 6 → gI z (12 + p) k = gI w (31 + p) k := fun p k hp hk => (hb p hp).2.2.1 k hk
  have e8 : ∀ p k, p < 4 → k < 4 → gI z (17 + p) k = gI w (36 + p) k := fun p k hp hk => (hb p hp).2.2.2 k hk
  have ho : ∀ o k, 182 ≤ o → gI z o k = gI w o k := fun o k ho => f.i ⟨by simp only [List.mem_cons, List.not_mem_nil, or_false]; omega, fun c hc e => by simp only [List.mem_cons, List.not_mem_nil, or_false] at hc; rcases hc with rfl | rfl | rfl | rfl | rfl <;> simp at e <;> omega⟩
  have c8 : gI z 133 8 = gI w 133 8 := f.c (by decide)
  exact ⟨f.lay h.1, ⟨(eqC.tp h.2.1.scnt d1 c_cnt),
    (rgC.tp h.2.1.scntr c_cnt),
    (pyr.tp h.2.1.spyr f.1 (fun _ => f.s) ho e1 c_cnt m_mk m_mv),
    (pyo.tp h.2.1.spyo f.1 (fun _ => f.s) e1),
    (rgA.tp h.2.1.sknd m_mk),
    (rgA.tp h.2.1.sv m_mv),
    (grd.tp h.2.1.spur e3 m_mpu),
    (zer.tp h.2.1.spurz c_cnt m_mpu),
    (rgA.tp h.2.1.spurr m_mpu),
    (grd.tp h.2.1.srow e8 m_mrw),
    (zer.tp h.2.1.srowz c_cnt m_mrw),
    (rgA.tp h.2.1.srowr m_mrw),
    (eqA.tp h.2.1.spad e12 m_mpd),
    (zer.tp h.2.1.spadz c_cnt (fun k hk => m_mpd k (by omega))),
    (rgA.tp h.2.1.spadr m_mpd),
    (eqA.tp h.2.1.stil r1 m_mti),
    (rgA.tp h.2.1.stilr m_mti),
    (eqA.tp h.2.1.spri r2 m_mpr),
    (rgA.tp h.2.1.sprir m_mpr),
    (eqC.tp h.2.1.sprc d7 c_prc),
    (rgC.tp h.2.1.sprcr c_prc),
    (eqA.tp h.2.1.ssp r3 m_msp),
    (rgA.tp h.2.1.sspr m_msp),
    (eqA.tp h.2.1.ssc r4 m_msc),
    (eqC.tp h.2.1.ssee d10 c_see),
    (rgC.tp h.2.1.sseer c_see),
    (eqA.tp h.2.1.sbw r5 m_mbw),
    (rgA.tp h.2.1.sbwr m_mbw),
    (ltA.tp h.2.1.sbwl m_mbw c_cnt c_bok),
    (eqA.tp h.2.1.sbp r6 m_mbp),
    (rgA.tp h.2.1.sbpr m_mbp),
    (eqC.tp h.2.1.sbok d13 c_bok),
    (rgC.tp h.2.1.sbokr c_bok),
    (twn.tp h.2.1.stwn d14 c_the),
    (rgC.tp h.2.1.sthe c_the),
    (ltC.tp h.2.1.sthel c_the c8),
    (S_scnt.fr f (by decide) (by decide) h.2.1.scnt),
    (S_scntr.fr f (by decide) h.2.1.scntr),
    (S_spyr.fr f (by decide) (by decide) (by decide) (by decide) (by decide) (by decide) h.2.1.spyr),
    (S_spyo.fr f (by decide) h.2.1.spyo),
    (S_sknd.fr f (by decide) h.2.1.sknd),
    (S_sv.fr f (by decide) h.2.1.sv),
    (S_spur.fr f (by decide) (by decide) (by decide) (by decide) (by decide) h.2.1.spur),
    (S_spurz.fr f (by decide) (by decide) h.2.1.spurz),
    (S_spurr.fr f (by decide) h.2.1.spurr),
    (S_srow.fr f (by decide) (by decide) (by decide) (by decide) (by decide) h.2.1.srow),
    (S_srowz.fr f (by decide) (by decide) h.2.1.srowz),
    (S_srowr.fr f (by decide) h.2.1.srowr),
    (S_spad.fr f (by decide) (by decide) h.2.1.spad),
    (S_spadz.fr f (by decide) (by decide) h.2.1.spadz),
    (S_spadr.fr f (by decide) h.2.1.spadr),
    (S_stil.fr f (by decide) (by decide) h.2.1.stil),
    (S_stilr.fr f (by decide) h.2.1.stilr),
    (S_spri.fr f (by decide) (by decide) h.2.1.spri),
    (S_sprir.fr f (by decide) h.2.1.sprir),
    (S_sprc.fr f (by decide) (by decide) h.2.1.sprc),
    (S_sprcr.fr f (by decide) h.2.1.sprcr),
    (S_ssp.fr f (by decide) (by decide) h.2.1.ssp),
    (S_sspr.fr f (by decide) h.2.1.sspr),
    (S_ssc.fr f (by decide) (by decide) h.2.1.ssc),
    (S_ssee.fr f (by decide) (by decide) h.2.1.ssee),
    (S_sseer.fr f (by decide) h.2.1.sseer),
    (S_sbw.fr f (by decide) (by decide) h.2.1.sbw),
    (S_sbwr.fr f (by decide) h.2.1.sbwr),
    (S_sbwl.fr f (by decide) (by decide) (by decide) h.2.1.sbwl),
    (S_sbp.fr f (by decide) (by decide) h.2.1.sbp),
    (S_sbpr.fr f (by decide) h.2.1.sbpr),
    (S_sbok.fr f (by decide) (by decide) h.2.1.sbok),
    (S_sbokr.fr f (by decide) h.2.1.sbokr),
    (S_stwn.fr f (by decide) (by decide) h.2.1.stwn),
    (S_sthe.fr f (by decide) h.2.1.sthe),
    (S_sthel.fr f (by decide) (by decide) h.2.1.sthel),
    (S_img.fr f (by decide) (by decide) h.2.1.img),
    (S_imgr.fr f (by decide) h.2.1.imgr),
    (S_tws.fr f (by decide) (by decide) h.2.1.tws),
    (S_twsr.fr f (by decide) h.2.1.twsr),
    (S_txt.fr f (by decide) (by decide) h.2.1.txt),
    (S_txtr.fr f (by decide) h.2.1.txtr),
    (S_fed.fr f (by decide) (by decide) h.2.1.fed),
    (S_fedr.fr f (by decide) h.2.1.fedr),
    (S_bod.fr f (by decide) (by decide) h.2.1.bod),
    (S_ran.fr f (by decide) (by decide) h.2.1.ran),
    (S_ranr.fr f (by decide) h.2.1.ranr),
    (S_srt.fr f (by decide) (by decide) h.2.1.srt),
    (S_srtr.fr f (by decide) h.2.1.srtr),
    (S_len.fr f (by decide) (by decide) h.2.1.len),
    (S_lenr.fr f (by decide) h.2.1.lenr),
    (S_lnz.fr f (by decide) (by decide) h.2.1.lnz),
    (S_itm.fr f (by decide) (by decide) (by decide) (by decide) (by decide) (by decide) (by decide) (by decide) h.2.1.itm),
    (S_wor.fr f (by decide) h.2.1.wor),
    (S_let.fr f (by decide) h.2.1.let)⟩, SimB.fr f (by decide) (by decide) h.2.2⟩
