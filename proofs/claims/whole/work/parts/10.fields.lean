/-! ===== fields as the classes name them; methods ===== -/
theorem ty_P_int (k : Nat) : ty_P k = .int := by unfold ty_P; split <;> rfl
theorem payl : ∀ ci, ci < 7 → ∃ C, gcl[ci]? = some (C, T_P, 3) ∧ ∀ w ∈ u_ws C T_P 3, w ∈ lw_good := by
  intro ci h
  match ci, h with
  | 0, _ => exact ⟨_, rfl, i_P⟩
  | 1, _ => exact ⟨_, rfl, i_E⟩
  | 2, _ => exact ⟨_, rfl, i_Ro⟩
  | 3, _ => exact ⟨_, rfl, i_Ke⟩
  | 4, _ => exact ⟨_, rfl, i_Li⟩
  | 5, _ => exact ⟨_, rfl, i_Wi⟩
  | 6, _ => exact ⟨_, rfl, i_To⟩
  | ci + 7, h => exact absurd h (by omega)
theorem gT_pay {ci : Nat} (h : ci < 7) : gT ci = ty_P := by unfold gT; rw [if_pos h]
theorem payv {B a k : Nat} {w : gW} (h : (sh w a).1 < 7) : ∀ u, gVal B (gT (sh w a).1 k) u a k = .int (gI u a k) := by intro u; rw [gT_pay h, ty_P_int]; rfl
theorem payn {a k : Nat} {x : Int32} {w : gW} (h : (sh w a).1 < 7) : narrow (gT (sh w a).1 k) (.int x) = .int x := by rw [gT_pay h, ty_P_int]; rfl
theorem payf {a k : Nat} {x : Int32} {w : gW} (h : (sh w a).1 < 7) : fits (gT (sh w a).1 k) (.int x) = true := by rw [gT_pay h, ty_P_int]; rfl
theorem g_anyP {s : State} {D : va_G} {cA : Nat → ClassId} {oc : gO} {B x : Nat} {w : gW} {H : Heap} (hK : gK D cA oc B s s.heap) (hR : gRep D cA B w H) (h : (sh w x).1 < 7) : va_Any "RidCoppers$Payer" s H (B + x) := by
  generalize hk : (sh w x).1 = ci at h
  match ci, h with
  | 0, _ => exact g_any hK hR (ci := 0) rfl hk (Or.inl rfl)
  | 1, _ => exact g_any hK hR (ci := 1) rfl hk (Or.inr (by decide))
  | 2, _ => exact g_any hK hR (ci := 2) rfl hk (Or.inr (by decide))
  | 3, _ => exact g_any hK hR (ci := 3) rfl hk (Or.inr (by decide))
  | 4, _ => exact g_any hK hR (ci := 4) rfl hk (Or.inr (by decide))
  | 5, _ => exact g_any hK hR (ci := 5) rfl hk (Or.inr (by decide))
  | 6, _ => exact g_any hK hR (ci := 6) rfl hk (Or.inr (by decide))
  | ci + 7, h => exact absurd h (by omega)
theorem fl_X_12 : gFld "RidCoppers" 12 11 0 := ⟨_, _, _, rfl, i_X, by decide, _, m_230, Or.inl rfl⟩
theorem fl_X_23 : gFld "RidCoppers" 23 11 1 := ⟨_, _, _, rfl, i_X, by decide, _, m_231, Or.inl rfl⟩
theorem fl_X_27 : gFld "RidCoppers" 27 11 2 := ⟨_, _, _, rfl, i_X, by decide, _, m_232, Or.inl rfl⟩
theorem fl_X_30 : gFld "RidCoppers" 30 11 3 := ⟨_, _, _, rfl, i_X, by decide, _, m_233, Or.inl rfl⟩
theorem fl_X_33 : gFld "RidCoppers" 33 11 4 := ⟨_, _, _, rfl, i_X, by decide, _, m_234, Or.inl rfl⟩
theorem fl_X_40 : gFld "RidCoppers" 40 11 5 := ⟨_, _, _, rfl, i_X, by decide, _, m_235, Or.inl rfl⟩
theorem fl_X_44 : gFld "RidCoppers" 44 11 6 := ⟨_, _, _, rfl, i_X, by decide, _, m_236, Or.inl rfl⟩
theorem fl_X_48 : gFld "RidCoppers" 48 11 7 := ⟨_, _, _, rfl, i_X, by decide, _, m_237, Or.inl rfl⟩
theorem fl_X_52 : gFld "RidCoppers" 52 11 8 := ⟨_, _, _, rfl, i_X, by decide, _, m_238, Or.inl rfl⟩
theorem fl_X_56 : gFld "RidCoppers" 56 11 9 := ⟨_, _, _, rfl, i_X, by decide, _, m_239, Or.inl rfl⟩
theorem fl_X_62 : gFld "RidCoppers" 62 11 10 := ⟨_, _, _, rfl, i_X, by decide, _, m_240, Or.inl rfl⟩
theorem fl_X_66 : gFld "RidCoppers" 66 11 11 := ⟨_, _, _, rfl, i_X, by decide, _, m_241, Or.inl rfl⟩
theorem fl_X_70 : gFld "RidCoppers" 70 11 12 := ⟨_, _, _, rfl, i_X, by decide, _, m_242, Or.inl rfl⟩
theorem fl_X_75 : gFld "RidCoppers" 75 11 13 := ⟨_, _, _, rfl, i_X, by decide, _, m_243, Or.inl rfl⟩
theorem fl_X_78 : gFld "RidCoppers" 78 9 5 := ⟨_, _, _, rfl, i_Wo, by decide, _, m_108, Or.inl rfl⟩
theorem fl_X_81 : gFld "RidCoppers" 81 9 1 := ⟨_, _, _, rfl, i_Wo, by decide, _, m_95, Or.inl rfl⟩
theorem fl_X_84 : gFld "RidCoppers" 84 9 0 := ⟨_, _, _, rfl, i_Wo, by decide, _, m_93, Or.inl rfl⟩
theorem fl_X_100 : gFld "RidCoppers" 100 9 2 := ⟨_, _, _, rfl, i_Wo, by decide, _, m_97, Or.inl rfl⟩
theorem fl_X_104 : gFld "RidCoppers" 104 9 14 := ⟨_, _, _, rfl, i_Wo, by decide, _, m_128, Or.inl rfl⟩
theorem flP_X_111 : ∀ ci, ci < 7 → gFld "RidCoppers" 111 ci 0 := fun ci h => by
  obtain ⟨C, h1, h2⟩ := payl ci h
  exact ⟨C, T_P, 3, h1, h2, by decide, _, m_292, Or.inl rfl⟩
theorem flP_X_116 : ∀ ci, ci < 7 → gFld "RidCoppers" 116 ci 2 := fun ci h => by
  obtain ⟨C, h1, h2⟩ := payl ci h
  exact ⟨C, T_P, 3, h1, h2, by decide, _, m_303, Or.inl rfl⟩
theorem fl_X_119 : gFld "RidCoppers" 119 9 4 := ⟨_, _, _, rfl, i_Wo, by decide, _, m_105, Or.inl rfl⟩
theorem fl_X_133 : gFld "RidCoppers" 133 9 3 := ⟨_, _, _, rfl, i_Wo, by decide, _, m_101, Or.inl rfl⟩
theorem fl_X_140 : gFld "RidCoppers" 140 7 1 := ⟨_, _, _, rfl, i_Tn, by decide, _, m_41, Or.inl rfl⟩
theorem fl_X_143 : gFld "RidCoppers" 143 7 0 := ⟨_, _, _, rfl, i_Tn, by decide, _, m_39, Or.inl rfl⟩
theorem fl_X_156 : gFld "RidCoppers" 156 10 9 := ⟨_, _, _, rfl, i_Pm, by decide, _, m_189, Or.inl rfl⟩
theorem fl_X_158 : gFld "RidCoppers" 158 10 1 := ⟨_, _, _, rfl, i_Pm, by decide, _, m_169, Or.inl rfl⟩
theorem fl_X_161 : gFld "RidCoppers" 161 10 2 := ⟨_, _, _, rfl, i_Pm, by decide, _, m_171, Or.inl rfl⟩
theorem fl_X_164 : gFld "RidCoppers" 164 10 8 := ⟨_, _, _, rfl, i_Pm, by decide, _, m_183, Or.inl rfl⟩
theorem fl_X_182 : gFld "RidCoppers" 182 9 7 := ⟨_, _, _, rfl, i_Wo, by decide, _, m_114, Or.inl rfl⟩
theorem fl_X_185 : gFld "RidCoppers" 185 9 6 := ⟨_, _, _, rfl, i_Wo, by decide, _, m_112, Or.inl rfl⟩
theorem fl_X_214 : gFld "RidCoppers" 214 9 10 := ⟨_, _, _, rfl, i_Wo, by decide, _, m_120, Or.inl rfl⟩
theorem fl_X_217 : gFld "RidCoppers" 217 9 8 := ⟨_, _, _, rfl, i_Wo, by decide, _, m_116, Or.inl rfl⟩
theorem fl_X_220 : gFld "RidCoppers" 220 9 9 := ⟨_, _, _, rfl, i_Wo, by decide, _, m_118, Or.inl rfl⟩
theorem fl_X_233 : gFld "RidCoppers" 233 9 13 := ⟨_, _, _, rfl, i_Wo, by decide, _, m_126, Or.inl rfl⟩
theorem fl_X_236 : gFld "RidCoppers" 236 9 11 := ⟨_, _, _, rfl, i_Wo, by decide, _, m_122, Or.inl rfl⟩
theorem fl_X_239 : gFld "RidCoppers" 239 9 12 := ⟨_, _, _, rfl, i_Wo, by decide, _, m_124, Or.inl rfl⟩
theorem fl_X_245 : gFld "RidCoppers" 245 8 1 := ⟨_, _, _, rfl, i_Tr, by decide, _, m_221, Or.inl rfl⟩
theorem fl_X_258 : gFld "RidCoppers" 258 8 0 := ⟨_, _, _, rfl, i_Tr, by decide, _, m_219, Or.inl rfl⟩
theorem fl_E_7 : gFld "RidCoppers$Exact" 7 10 8 := ⟨_, _, _, rfl, i_Pm, by decide, _, m_179, Or.inl rfl⟩
theorem fl_E_13 : gFld "RidCoppers$Exact" 13 10 7 := ⟨_, _, _, rfl, i_Pm, by decide, _, m_177, Or.inl rfl⟩
theorem fl_E_16 : gFld "RidCoppers$Exact" 16 10 9 := ⟨_, _, _, rfl, i_Pm, by decide, _, m_187, Or.inl rfl⟩
theorem flP_Ke_9 : ∀ ci, ci < 7 → gFld "RidCoppers$Keeper" 9 ci 2 := fun ci h => by
  obtain ⟨C, h1, h2⟩ := payl ci h
  exact ⟨C, T_P, 3, h1, h2, by decide, _, m_301, Or.inr m_302⟩
theorem flP_P_13 : ∀ ci, ci < 7 → gFld "RidCoppers$Payer" 13 ci 1 := fun ci h => by
  obtain ⟨C, h1, h2⟩ := payl ci h
  exact ⟨C, T_P, 3, h1, h2, by decide, _, m_293, Or.inl rfl⟩
theorem flP_P_16 : ∀ ci, ci < 7 → gFld "RidCoppers$Payer" 16 ci 2 := fun ci h => by
  obtain ⟨C, h1, h2⟩ := payl ci h
  exact ⟨C, T_P, 3, h1, h2, by decide, _, m_300, Or.inl rfl⟩
theorem fl_P_19 : gFld "RidCoppers$Payer" 19 10 8 := ⟨_, _, _, rfl, i_Pm, by decide, _, m_182, Or.inl rfl⟩
theorem fl_P_24 : gFld "RidCoppers$Payer" 24 10 9 := ⟨_, _, _, rfl, i_Pm, by decide, _, m_188, Or.inl rfl⟩
theorem fl_Pm_9 : gFld "RidCoppers$Payment" 9 10 0 := ⟨_, _, _, rfl, i_Pm, by decide, _, m_167, Or.inl rfl⟩
theorem fl_Pm_15 : gFld "RidCoppers$Payment" 15 10 1 := ⟨_, _, _, rfl, i_Pm, by decide, _, m_168, Or.inl rfl⟩
theorem fl_Pm_18 : gFld "RidCoppers$Payment" 18 10 2 := ⟨_, _, _, rfl, i_Pm, by decide, _, m_170, Or.inl rfl⟩
theorem fl_Pm_21 : gFld "RidCoppers$Payment" 21 10 3 := ⟨_, _, _, rfl, i_Pm, by decide, _, m_172, Or.inl rfl⟩
theorem fl_Pm_24 : gFld "RidCoppers$Payment" 24 10 4 := ⟨_, _, _, rfl, i_Pm, by decide, _, m_173, Or.inl rfl⟩
theorem fl_Pm_27 : gFld "RidCoppers$Payment" 27 10 5 := ⟨_, _, _, rfl, i_Pm, by decide, _, m_174, Or.inl rfl⟩
theorem fl_Pm_31 : gFld "RidCoppers$Payment" 31 10 6 := ⟨_, _, _, rfl, i_Pm, by decide, _, m_175, Or.inl rfl⟩
theorem fl_Pm_35 : gFld "RidCoppers$Payment" 35 10 7 := ⟨_, _, _, rfl, i_Pm, by decide, _, m_176, Or.inl rfl⟩
theorem fl_Pm_39 : gFld "RidCoppers$Payment" 39 10 8 := ⟨_, _, _, rfl, i_Pm, by decide, _, m_178, Or.inl rfl⟩
theorem fl_Pm_42 : gFld "RidCoppers$Payment" 42 10 9 := ⟨_, _, _, rfl, i_Pm, by decide, _, m_184, Or.inl rfl⟩
theorem flP_Pm_96 : ∀ ci, ci < 7 → gFld "RidCoppers$Payment" 96 ci 1 := fun ci h => by
  obtain ⟨C, h1, h2⟩ := payl ci h
  exact ⟨C, T_P, 3, h1, h2, by decide, _, m_299, Or.inl rfl⟩
theorem fl_Pm_99 : gFld "RidCoppers$Payment" 99 9 5 := ⟨_, _, _, rfl, i_Wo, by decide, _, m_110, Or.inl rfl⟩
theorem fl_Pm_104 : gFld "RidCoppers$Payment" 104 9 2 := ⟨_, _, _, rfl, i_Wo, by decide, _, m_98, Or.inl rfl⟩
theorem fl_Pm_108 : gFld "RidCoppers$Payment" 108 9 4 := ⟨_, _, _, rfl, i_Wo, by decide, _, m_106, Or.inl rfl⟩
theorem fl_Pm_117 : gFld "RidCoppers$Payment" 117 9 14 := ⟨_, _, _, rfl, i_Wo, by decide, _, m_129, Or.inl rfl⟩
theorem fl_Pm_121 : gFld "RidCoppers$Payment" 121 7 0 := ⟨_, _, _, rfl, i_Tn, by decide, _, m_38, Or.inl rfl⟩
theorem fl_Pm_134 : gFld "RidCoppers$Payment" 134 7 1 := ⟨_, _, _, rfl, i_Tn, by decide, _, m_42, Or.inl rfl⟩
theorem fl_Ro_7 : gFld "RidCoppers$Rough" 7 10 9 := ⟨_, _, _, rfl, i_Pm, by decide, _, m_185, Or.inl rfl⟩
theorem fl_Ro_13 : gFld "RidCoppers$Rough" 13 10 8 := ⟨_, _, _, rfl, i_Pm, by decide, _, m_180, Or.inl rfl⟩
theorem fl_To_9 : gFld "RidCoppers$Told" 9 9 3 := ⟨_, _, _, rfl, i_Wo, by decide, _, m_100, Or.inl rfl⟩
theorem flP_To_15 : ∀ ci, ci < 7 → gFld "RidCoppers$Told" 15 ci 1 := fun ci h => by
  obtain ⟨C, h1, h2⟩ := payl ci h
  exact ⟨C, T_P, 3, h1, h2, by decide, _, m_294, Or.inr m_295⟩
theorem fl_To_21 : gFld "RidCoppers$Told" 21 9 4 := ⟨_, _, _, rfl, i_Wo, by decide, _, m_103, Or.inl rfl⟩
theorem flP_To_38 : ∀ ci, ci < 7 → gFld "RidCoppers$Told" 38 ci 2 := fun ci h => by
  obtain ⟨C, h1, h2⟩ := payl ci h
  exact ⟨C, T_P, 3, h1, h2, by decide, _, m_304, Or.inr m_305⟩
theorem fl_Tn_9 : gFld "RidCoppers$Town" 9 7 0 := ⟨_, _, _, rfl, i_Tn, by decide, _, m_36, Or.inl rfl⟩
theorem fl_Tn_19 : gFld "RidCoppers$Town" 19 7 2 := ⟨_, _, _, rfl, i_Tn, by decide, _, m_43, Or.inl rfl⟩
theorem fl_Tn_22 : gFld "RidCoppers$Town" 22 7 3 := ⟨_, _, _, rfl, i_Tn, by decide, _, m_44, Or.inl rfl⟩
theorem fl_Tn_25 : gFld "RidCoppers$Town" 25 7 4 := ⟨_, _, _, rfl, i_Tn, by decide, _, m_45, Or.inl rfl⟩
theorem fl_Tn_28 : gFld "RidCoppers$Town" 28 7 5 := ⟨_, _, _, rfl, i_Tn, by decide, _, m_46, Or.inl rfl⟩
theorem fl_Tn_31 : gFld "RidCoppers$Town" 31 7 6 := ⟨_, _, _, rfl, i_Tn, by decide, _, m_47, Or.inl rfl⟩
theorem fl_Tn_34 : gFld "RidCoppers$Town" 34 7 7 := ⟨_, _, _, rfl, i_Tn, by decide, _, m_48, Or.inl rfl⟩
theorem fl_Tn_37 : gFld "RidCoppers$Town" 37 7 8 := ⟨_, _, _, rfl, i_Tn, by decide, _, m_49, Or.inl rfl⟩
theorem fl_Tn_40 : gFld "RidCoppers$Town" 40 7 9 := ⟨_, _, _, rfl, i_Tn, by decide, _, m_50, Or.inl rfl⟩
theorem fl_Tn_43 : gFld "RidCoppers$Town" 43 7 10 := ⟨_, _, _, rfl, i_Tn, by decide, _, m_51, Or.inl rfl⟩
theorem fl_Tn_47 : gFld "RidCoppers$Town" 47 7 11 := ⟨_, _, _, rfl, i_Tn, by decide, _, m_52, Or.inl rfl⟩
theorem fl_Tn_50 : gFld "RidCoppers$Town" 50 7 12 := ⟨_, _, _, rfl, i_Tn, by decide, _, m_53, Or.inl rfl⟩
theorem fl_Tn_71 : gFld "RidCoppers$Town" 71 9 5 := ⟨_, _, _, rfl, i_Wo, by decide, _, m_109, Or.inl rfl⟩
theorem flP_Tn_76 : ∀ ci, ci < 7 → gFld "RidCoppers$Town" 76 ci 1 := fun ci h => by
  obtain ⟨C, h1, h2⟩ := payl ci h
  exact ⟨C, T_P, 3, h1, h2, by decide, _, m_298, Or.inl rfl⟩
theorem flP_Tn_81 : ∀ ci, ci < 7 → gFld "RidCoppers$Town" 81 ci 0 := fun ci h => by
  obtain ⟨C, h1, h2⟩ := payl ci h
  exact ⟨C, T_P, 3, h1, h2, by decide, _, m_291, Or.inl rfl⟩
theorem fl_Tn_84 : gFld "RidCoppers$Town" 84 9 4 := ⟨_, _, _, rfl, i_Wo, by decide, _, m_104, Or.inl rfl⟩
theorem fl_Tr_9 : gFld "RidCoppers$Trace" 9 8 0 := ⟨_, _, _, rfl, i_Tr, by decide, _, m_218, Or.inl rfl⟩
theorem fl_Tr_15 : gFld "RidCoppers$Trace" 15 8 1 := ⟨_, _, _, rfl, i_Tr, by decide, _, m_220, Or.inl rfl⟩
theorem fl_Wi_9 : gFld "RidCoppers$Wild" 9 10 9 := ⟨_, _, _, rfl, i_Pm, by decide, _, m_186, Or.inl rfl⟩
theorem fl_Wi_15 : gFld "RidCoppers$Wild" 15 10 8 := ⟨_, _, _, rfl, i_Pm, by decide, _, m_181, Or.inl rfl⟩
theorem flP_Wi_30 : ∀ ci, ci < 7 → gFld "RidCoppers$Wild" 30 ci 1 := fun ci h => by
  obtain ⟨C, h1, h2⟩ := payl ci h
  exact ⟨C, T_P, 3, h1, h2, by decide, _, m_296, Or.inr m_297⟩
theorem fl_Wo_11 : gFld "RidCoppers$World" 11 9 0 := ⟨_, _, _, rfl, i_Wo, by decide, _, m_92, Or.inl rfl⟩
theorem fl_Wo_17 : gFld "RidCoppers$World" 17 9 1 := ⟨_, _, _, rfl, i_Wo, by decide, _, m_94, Or.inl rfl⟩
theorem fl_Wo_23 : gFld "RidCoppers$World" 23 9 2 := ⟨_, _, _, rfl, i_Wo, by decide, _, m_96, Or.inl rfl⟩
theorem fl_Wo_26 : gFld "RidCoppers$World" 26 9 3 := ⟨_, _, _, rfl, i_Wo, by decide, _, m_99, Or.inl rfl⟩
theorem fl_Wo_29 : gFld "RidCoppers$World" 29 9 4 := ⟨_, _, _, rfl, i_Wo, by decide, _, m_102, Or.inl rfl⟩
theorem fl_Wo_33 : gFld "RidCoppers$World" 33 9 5 := ⟨_, _, _, rfl, i_Wo, by decide, _, m_107, Or.inl rfl⟩
theorem fl_Wo_36 : gFld "RidCoppers$World" 36 9 6 := ⟨_, _, _, rfl, i_Wo, by decide, _, m_111, Or.inl rfl⟩
theorem fl_Wo_39 : gFld "RidCoppers$World" 39 9 7 := ⟨_, _, _, rfl, i_Wo, by decide, _, m_113, Or.inl rfl⟩
theorem fl_Wo_42 : gFld "RidCoppers$World" 42 9 8 := ⟨_, _, _, rfl, i_Wo, by decide, _, m_115, Or.inl rfl⟩
theorem fl_Wo_45 : gFld "RidCoppers$World" 45 9 9 := ⟨_, _, _, rfl, i_Wo, by decide, _, m_117, Or.inl rfl⟩
theorem fl_Wo_48 : gFld "RidCoppers$World" 48 9 10 := ⟨_, _, _, rfl, i_Wo, by decide, _, m_119, Or.inl rfl⟩
theorem fl_Wo_51 : gFld "RidCoppers$World" 51 9 11 := ⟨_, _, _, rfl, i_Wo, by decide, _, m_121, Or.inl rfl⟩
theorem fl_Wo_54 : gFld "RidCoppers$World" 54 9 12 := ⟨_, _, _, rfl, i_Wo, by decide, _, m_123, Or.inl rfl⟩
theorem fl_Wo_57 : gFld "RidCoppers$World" 57 9 13 := ⟨_, _, _, rfl, i_Wo, by decide, _, m_125, Or.inl rfl⟩
theorem fl_Wo_60 : gFld "RidCoppers$World" 60 9 14 := ⟨_, _, _, rfl, i_Wo, by decide, _, m_127, Or.inl rfl⟩
theorem fl_Wo_70 : gFld "RidCoppers$World" 70 7 0 := ⟨_, _, _, rfl, i_Tn, by decide, _, m_37, Or.inl rfl⟩
theorem fl_M_7 : gFld "RidCoppersModel" 7 12 0 := ⟨_, _, _, rfl, i_M, by decide, _, m_982, Or.inl rfl⟩
theorem fl_M_13 : gFld "RidCoppersModel" 13 12 1 := ⟨_, _, _, rfl, i_M, by decide, _, m_983, Or.inl rfl⟩
theorem fl_M_17 : gFld "RidCoppersModel" 17 12 2 := ⟨_, _, _, rfl, i_M, by decide, _, m_984, Or.inl rfl⟩
theorem fl_M_20 : gFld "RidCoppersModel" 20 12 3 := ⟨_, _, _, rfl, i_M, by decide, _, m_985, Or.inl rfl⟩
theorem fl_M_23 : gFld "RidCoppersModel" 23 12 4 := ⟨_, _, _, rfl, i_M, by decide, _, m_986, Or.inl rfl⟩
theorem fl_M_26 : gFld "RidCoppersModel" 26 12 5 := ⟨_, _, _, rfl, i_M, by decide, _, m_987, Or.inl rfl⟩
theorem fl_M_29 : gFld "RidCoppersModel" 29 12 6 := ⟨_, _, _, rfl, i_M, by decide, _, m_988, Or.inl rfl⟩
theorem fl_M_32 : gFld "RidCoppersModel" 32 12 7 := ⟨_, _, _, rfl, i_M, by decide, _, m_989, Or.inl rfl⟩
theorem fl_M_35 : gFld "RidCoppersModel" 35 12 8 := ⟨_, _, _, rfl, i_M, by decide, _, m_990, Or.inl rfl⟩
theorem fl_M_38 : gFld "RidCoppersModel" 38 12 9 := ⟨_, _, _, rfl, i_M, by decide, _, m_991, Or.inl rfl⟩
theorem fl_M_41 : gFld "RidCoppersModel" 41 12 10 := ⟨_, _, _, rfl, i_M, by decide, _, m_992, Or.inl rfl⟩
theorem fl_M_44 : gFld "RidCoppersModel" 44 12 11 := ⟨_, _, _, rfl, i_M, by decide, _, m_993, Or.inl rfl⟩
theorem fl_M_47 : gFld "RidCoppersModel" 47 12 12 := ⟨_, _, _, rfl, i_M, by decide, _, m_994, Or.inl rfl⟩
theorem fl_M_50 : gFld "RidCoppersModel" 50 12 13 := ⟨_, _, _, rfl, i_M, by decide, _, m_995, Or.inl rfl⟩
theorem fl_M_53 : gFld "RidCoppersModel" 53 12 14 := ⟨_, _, _, rfl, i_M, by decide, _, m_996, Or.inl rfl⟩
theorem fl_M_56 : gFld "RidCoppersModel" 56 12 15 := ⟨_, _, _, rfl, i_M, by decide, _, m_997, Or.inl rfl⟩
theorem fl_M_59 : gFld "RidCoppersModel" 59 12 16 := ⟨_, _, _, rfl, i_M, by decide, _, m_998, Or.inl rfl⟩
theorem fl_M_62 : gFld "RidCoppersModel" 62 12 17 := ⟨_, _, _, rfl, i_M, by decide, _, m_999, Or.inl rfl⟩
theorem fl_M_65 : gFld "RidCoppersModel" 65 12 18 := ⟨_, _, _, rfl, i_M, by decide, _, m_1000, Or.inl rfl⟩
theorem fl_M_68 : gFld "RidCoppersModel" 68 12 19 := ⟨_, _, _, rfl, i_M, by decide, _, m_1001, Or.inl rfl⟩
theorem fl_M_71 : gFld "RidCoppersModel" 71 12 20 := ⟨_, _, _, rfl, i_M, by decide, _, m_1002, Or.inl rfl⟩
theorem fl_M_74 : gFld "RidCoppersModel" 74 12 21 := ⟨_, _, _, rfl, i_M, by decide, _, m_1003, Or.inl rfl⟩
theorem fl_M_77 : gFld "RidCoppersModel" 77 12 22 := ⟨_, _, _, rfl, i_M, by decide, _, m_1004, Or.inl rfl⟩
theorem fl_M_80 : gFld "RidCoppersModel" 80 12 23 := ⟨_, _, _, rfl, i_M, by decide, _, m_1005, Or.inl rfl⟩
theorem fl_M_83 : gFld "RidCoppersModel" 83 12 24 := ⟨_, _, _, rfl, i_M, by decide, _, m_1006, Or.inl rfl⟩
theorem fl_M_86 : gFld "RidCoppersModel" 86 12 25 := ⟨_, _, _, rfl, i_M, by decide, _, m_1007, Or.inl rfl⟩
theorem fl_M_90 : gFld "RidCoppersModel" 90 12 26 := ⟨_, _, _, rfl, i_M, by decide, _, m_1008, Or.inl rfl⟩
theorem fl_M_93 : gFld "RidCoppersModel" 93 12 27 := ⟨_, _, _, rfl, i_M, by decide, _, m_1009, Or.inl rfl⟩
theorem fl_M_96 : gFld "RidCoppersModel" 96 12 28 := ⟨_, _, _, rfl, i_M, by decide, _, m_1010, Or.inl rfl⟩
theorem fl_M_99 : gFld "RidCoppersModel" 99 12 29 := ⟨_, _, _, rfl, i_M, by decide, _, m_1011, Or.inl rfl⟩
theorem fl_M_102 : gFld "RidCoppersModel" 102 12 30 := ⟨_, _, _, rfl, i_M, by decide, _, m_1012, Or.inl rfl⟩
theorem fl_M_105 : gFld "RidCoppersModel" 105 12 31 := ⟨_, _, _, rfl, i_M, by decide, _, m_1013, Or.inl rfl⟩
theorem fl_M_108 : gFld "RidCoppersModel" 108 12 32 := ⟨_, _, _, rfl, i_M, by decide, _, m_1014, Or.inl rfl⟩
theorem fl_M_111 : gFld "RidCoppersModel" 111 12 33 := ⟨_, _, _, rfl, i_M, by decide, _, m_1015, Or.inl rfl⟩
theorem fl_M_114 : gFld "RidCoppersModel" 114 12 34 := ⟨_, _, _, rfl, i_M, by decide, _, m_1016, Or.inl rfl⟩
theorem fl_M_117 : gFld "RidCoppersModel" 117 12 35 := ⟨_, _, _, rfl, i_M, by decide, _, m_1017, Or.inl rfl⟩
theorem fl_M_120 : gFld "RidCoppersModel" 120 12 36 := ⟨_, _, _, rfl, i_M, by decide, _, m_1018, Or.inl rfl⟩
theorem fl_M_123 : gFld "RidCoppersModel" 123 12 37 := ⟨_, _, _, rfl, i_M, by decide, _, m_1019, Or.inl rfl⟩
theorem fl_M_126 : gFld "RidCoppersModel" 126 12 38 := ⟨_, _, _, rfl, i_M, by decide, _, m_1020, Or.inl rfl⟩
theorem fl_M_129 : gFld "RidCoppersModel" 129 12 39 := ⟨_, _, _, rfl, i_M, by decide, _, m_1021, Or.inl rfl⟩
theorem fl_M_132 : gFld "RidCoppersModel" 132 12 40 := ⟨_, _, _, rfl, i_M, by decide, _, m_1022, Or.inl rfl⟩
theorem fl_M_135 : gFld "RidCoppersModel" 135 12 41 := ⟨_, _, _, rfl, i_M, by decide, _, m_1023, Or.inl rfl⟩
theorem fl_M_138 : gFld "RidCoppersModel" 138 12 42 := ⟨_, _, _, rfl, i_M, by decide, _, m_1024, Or.inl rfl⟩
theorem fl_M_141 : gFld "RidCoppersModel" 141 12 43 := ⟨_, _, _, rfl, i_M, by decide, _, m_1025, Or.inl rfl⟩
theorem fl_M_144 : gFld "RidCoppersModel" 144 12 44 := ⟨_, _, _, rfl, i_M, by decide, _, m_1026, Or.inl rfl⟩
theorem fl_M_147 : gFld "RidCoppersModel" 147 12 45 := ⟨_, _, _, rfl, i_M, by decide, _, m_1027, Or.inl rfl⟩
theorem fl_M_150 : gFld "RidCoppersModel" 150 12 46 := ⟨_, _, _, rfl, i_M, by decide, _, m_1028, Or.inl rfl⟩
theorem fl_M_153 : gFld "RidCoppersModel" 153 12 47 := ⟨_, _, _, rfl, i_M, by decide, _, m_1029, Or.inl rfl⟩
theorem fl_M_156 : gFld "RidCoppersModel" 156 12 48 := ⟨_, _, _, rfl, i_M, by decide, _, m_1030, Or.inl rfl⟩
theorem fl_M_159 : gFld "RidCoppersModel" 159 12 49 := ⟨_, _, _, rfl, i_M, by decide, _, m_1031, Or.inl rfl⟩
theorem fl_M_163 : gFld "RidCoppersModel" 163 12 50 := ⟨_, _, _, rfl, i_M, by decide, _, m_1032, Or.inl rfl⟩
theorem fl_M_166 : gFld "RidCoppersModel" 166 12 51 := ⟨_, _, _, rfl, i_M, by decide, _, m_1033, Or.inl rfl⟩
theorem fl_M_169 : gFld "RidCoppersModel" 169 12 52 := ⟨_, _, _, rfl, i_M, by decide, _, m_1034, Or.inl rfl⟩
theorem fl_M_172 : gFld "RidCoppersModel" 172 12 53 := ⟨_, _, _, rfl, i_M, by decide, _, m_1035, Or.inl rfl⟩
theorem fl_M_175 : gFld "RidCoppersModel" 175 12 54 := ⟨_, _, _, rfl, i_M, by decide, _, m_1036, Or.inl rfl⟩
theorem fl_M_178 : gFld "RidCoppersModel" 178 12 55 := ⟨_, _, _, rfl, i_M, by decide, _, m_1037, Or.inl rfl⟩
theorem fl_M_181 : gFld "RidCoppersModel" 181 12 56 := ⟨_, _, _, rfl, i_M, by decide, _, m_1038, Or.inl rfl⟩
theorem fl_M_184 : gFld "RidCoppersModel" 184 12 57 := ⟨_, _, _, rfl, i_M, by decide, _, m_1039, Or.inl rfl⟩
theorem fl_M_187 : gFld "RidCoppersModel" 187 12 58 := ⟨_, _, _, rfl, i_M, by decide, _, m_1040, Or.inl rfl⟩
theorem fl_M_190 : gFld "RidCoppersModel" 190 12 59 := ⟨_, _, _, rfl, i_M, by decide, _, m_1041, Or.inl rfl⟩
theorem fl_M_193 : gFld "RidCoppersModel" 193 12 60 := ⟨_, _, _, rfl, i_M, by decide, _, m_1042, Or.inl rfl⟩
theorem fl_M_196 : gFld "RidCoppersModel" 196 12 61 := ⟨_, _, _, rfl, i_M, by decide, _, m_1043, Or.inl rfl⟩
theorem fl_M_199 : gFld "RidCoppersModel" 199 12 62 := ⟨_, _, _, rfl, i_M, by decide, _, m_1044, Or.inl rfl⟩
theorem fl_M_202 : gFld "RidCoppersModel" 202 12 63 := ⟨_, _, _, rfl, i_M, by decide, _, m_1045, Or.inl rfl⟩
theorem fl_M_205 : gFld "RidCoppersModel" 205 12 64 := ⟨_, _, _, rfl, i_M, by decide, _, m_1046, Or.inl rfl⟩
theorem fl_M_208 : gFld "RidCoppersModel" 208 12 65 := ⟨_, _, _, rfl, i_M, by decide, _, m_1047, Or.inl rfl⟩
theorem fl_M_211 : gFld "RidCoppersModel" 211 12 66 := ⟨_, _, _, rfl, i_M, by decide, _, m_1048, Or.inl rfl⟩
theorem fl_M_214 : gFld "RidCoppersModel" 214 12 67 := ⟨_, _, _, rfl, i_M, by decide, _, m_1049, Or.inl rfl⟩
theorem fl_M_217 : gFld "RidCoppersModel" 217 12 68 := ⟨_, _, _, rfl, i_M, by decide, _, m_1050, Or.inl rfl⟩
theorem fl_M_220 : gFld "RidCoppersModel" 220 12 69 := ⟨_, _, _, rfl, i_M, by decide, _, m_1051, Or.inl rfl⟩
theorem fl_M_223 : gFld "RidCoppersModel" 223 12 70 := ⟨_, _, _, rfl, i_M, by decide, _, m_1052, Or.inl rfl⟩
theorem fl_M_227 : gFld "RidCoppersModel" 227 12 71 := ⟨_, _, _, rfl, i_M, by decide, _, m_1053, Or.inl rfl⟩
theorem pf_X_12 : gPut "RidCoppers" 12 11 0 true := ⟨_, _, _, rfl, i_X, by decide, tk_X, nm_X, rfl, (fun _ => rfl), _, m_230, rfl⟩
theorem pf_X_23 : gPut "RidCoppers" 23 11 1 true := ⟨_, _, _, rfl, i_X, by decide, tk_X, nm_X, rfl, (fun _ => rfl), _, m_231, rfl⟩
theorem pf_X_27 : gPut "RidCoppers" 27 11 2 true := ⟨_, _, _, rfl, i_X, by decide, tk_X, nm_X, rfl, (fun _ => rfl), _, m_232, rfl⟩
theorem pf_X_30 : gPut "RidCoppers" 30 11 3 true := ⟨_, _, _, rfl, i_X, by decide, tk_X, nm_X, rfl, (fun _ => rfl), _, m_233, rfl⟩
theorem pf_X_33 : gPut "RidCoppers" 33 11 4 false := ⟨_, _, _, rfl, i_X, by decide, tk_X, nm_X, rfl, (fun h => by cases h), _, m_234, rfl⟩
theorem pf_X_40 : gPut "RidCoppers" 40 11 5 true := ⟨_, _, _, rfl, i_X, by decide, tk_X, nm_X, rfl, (fun _ => rfl), _, m_235, rfl⟩
theorem pf_X_44 : gPut "RidCoppers" 44 11 6 true := ⟨_, _, _, rfl, i_X, by decide, tk_X, nm_X, rfl, (fun _ => rfl), _, m_236, rfl⟩
theorem pf_X_48 : gPut "RidCoppers" 48 11 7 false := ⟨_, _, _, rfl, i_X, by decide, tk_X, nm_X, rfl, (fun h => by cases h), _, m_237, rfl⟩
theorem pf_X_52 : gPut "RidCoppers" 52 11 8 true := ⟨_, _, _, rfl, i_X, by decide, tk_X, nm_X, rfl, (fun _ => rfl), _, m_238, rfl⟩
theorem pf_X_56 : gPut "RidCoppers" 56 11 9 false := ⟨_, _, _, rfl, i_X, by decide, tk_X, nm_X, rfl, (fun h => by cases h), _, m_239, rfl⟩
theorem pf_X_62 : gPut "RidCoppers" 62 11 10 true := ⟨_, _, _, rfl, i_X, by decide, tk_X, nm_X, rfl, (fun _ => rfl), _, m_240, rfl⟩
theorem pf_X_66 : gPut "RidCoppers" 66 11 11 true := ⟨_, _, _, rfl, i_X, by decide, tk_X, nm_X, rfl, (fun _ => rfl), _, m_241, rfl⟩
theorem pf_X_70 : gPut "RidCoppers" 70 11 12 true := ⟨_, _, _, rfl, i_X, by decide, tk_X, nm_X, rfl, (fun _ => rfl), _, m_242, rfl⟩
theorem pf_X_75 : gPut "RidCoppers" 75 11 13 true := ⟨_, _, _, rfl, i_X, by decide, tk_X, nm_X, rfl, (fun _ => rfl), _, m_243, rfl⟩
theorem pf_X_81 : gPut "RidCoppers" 81 9 1 false := ⟨_, _, _, rfl, i_Wo, by decide, tk_Wo, nm_Wo, rfl, (fun h => by cases h), _, m_95, rfl⟩
theorem pf_X_104 : gPut "RidCoppers" 104 9 14 false := ⟨_, _, _, rfl, i_Wo, by decide, tk_Wo, nm_Wo, rfl, (fun h => by cases h), _, m_128, rfl⟩
theorem pf_X_182 : gPut "RidCoppers" 182 9 7 false := ⟨_, _, _, rfl, i_Wo, by decide, tk_Wo, nm_Wo, rfl, (fun h => by cases h), _, m_114, rfl⟩
theorem pf_X_214 : gPut "RidCoppers" 214 9 10 false := ⟨_, _, _, rfl, i_Wo, by decide, tk_Wo, nm_Wo, rfl, (fun h => by cases h), _, m_120, rfl⟩
theorem pf_X_233 : gPut "RidCoppers" 233 9 13 false := ⟨_, _, _, rfl, i_Wo, by decide, tk_Wo, nm_Wo, rfl, (fun h => by cases h), _, m_126, rfl⟩
theorem pf_X_245 : gPut "RidCoppers" 245 8 1 false := ⟨_, _, _, rfl, i_Tr, by decide, tk_Tr, nm_Tr, rfl, (fun h => by cases h), _, m_221, rfl⟩
theorem pf_P_7P : ∀ ci, ci < 7 → gPut "RidCoppers$Payer" 7 ci 0 true := fun ci h => by
  obtain ⟨C, h1, h2⟩ := payl ci h
  exact ⟨C, T_P, 3, h1, h2, by decide, by rw [gT_pay h]; exact tk_P, nm_P, rfl, (fun _ => rfl), _, m_290, rfl⟩
theorem pf_P_13P : ∀ ci, ci < 7 → gPut "RidCoppers$Payer" 13 ci 1 true := fun ci h => by
  obtain ⟨C, h1, h2⟩ := payl ci h
  exact ⟨C, T_P, 3, h1, h2, by decide, by rw [gT_pay h]; exact tk_P, nm_P, rfl, (fun _ => rfl), _, m_293, rfl⟩
theorem pf_P_16P : ∀ ci, ci < 7 → gPut "RidCoppers$Payer" 16 ci 2 true := fun ci h => by
  obtain ⟨C, h1, h2⟩ := payl ci h
  exact ⟨C, T_P, 3, h1, h2, by decide, by rw [gT_pay h]; exact tk_P, nm_P, rfl, (fun _ => rfl), _, m_300, rfl⟩
theorem pf_Pm_9 : gPut "RidCoppers$Payment" 9 10 0 true := ⟨_, _, _, rfl, i_Pm, by decide, tk_Pm, nm_Pm, rfl, (fun _ => rfl), _, m_167, rfl⟩
theorem pf_Pm_15 : gPut "RidCoppers$Payment" 15 10 1 true := ⟨_, _, _, rfl, i_Pm, by decide, tk_Pm, nm_Pm, rfl, (fun _ => rfl), _, m_168, rfl⟩
theorem pf_Pm_18 : gPut "RidCoppers$Payment" 18 10 2 true := ⟨_, _, _, rfl, i_Pm, by decide, tk_Pm, nm_Pm, rfl, (fun _ => rfl), _, m_170, rfl⟩
theorem pf_Pm_21 : gPut "RidCoppers$Payment" 21 10 3 true := ⟨_, _, _, rfl, i_Pm, by decide, tk_Pm, nm_Pm, rfl, (fun _ => rfl), _, m_172, rfl⟩
theorem pf_Pm_24 : gPut "RidCoppers$Payment" 24 10 4 true := ⟨_, _, _, rfl, i_Pm, by decide, tk_Pm, nm_Pm, rfl, (fun _ => rfl), _, m_173, rfl⟩
theorem pf_Pm_27 : gPut "RidCoppers$Payment" 27 10 5 false := ⟨_, _, _, rfl, i_Pm, by decide, tk_Pm, nm_Pm, rfl, (fun h => by cases h), _, m_174, rfl⟩
theorem pf_Pm_31 : gPut "RidCoppers$Payment" 31 10 6 false := ⟨_, _, _, rfl, i_Pm, by decide, tk_Pm, nm_Pm, rfl, (fun h => by cases h), _, m_175, rfl⟩
theorem pf_Pm_35 : gPut "RidCoppers$Payment" 35 10 7 false := ⟨_, _, _, rfl, i_Pm, by decide, tk_Pm, nm_Pm, rfl, (fun h => by cases h), _, m_176, rfl⟩
theorem pf_Pm_39 : gPut "RidCoppers$Payment" 39 10 8 false := ⟨_, _, _, rfl, i_Pm, by decide, tk_Pm, nm_Pm, rfl, (fun h => by cases h), _, m_178, rfl⟩
theorem pf_Pm_42 : gPut "RidCoppers$Payment" 42 10 9 false := ⟨_, _, _, rfl, i_Pm, by decide, tk_Pm, nm_Pm, rfl, (fun h => by cases h), _, m_184, rfl⟩
theorem pf_Tn_9 : gPut "RidCoppers$Town" 9 7 0 true := ⟨_, _, _, rfl, i_Tn, by decide, tk_Tn, nm_Tn, rfl, (fun _ => rfl), _, m_36, rfl⟩
theorem pf_Tn_15 : gPut "RidCoppers$Town" 15 7 1 false := ⟨_, _, _, rfl, i_Tn, by decide, tk_Tn, nm_Tn, rfl, (fun h => by cases h), _, m_40, rfl⟩
theorem pf_Tn_19 : gPut "RidCoppers$Town" 19 7 2 true := ⟨_, _, _, rfl, i_Tn, by decide, tk_Tn, nm_Tn, rfl, (fun _ => rfl), _, m_43, rfl⟩
theorem pf_Tn_22 : gPut "RidCoppers$Town" 22 7 3 true := ⟨_, _, _, rfl, i_Tn, by decide, tk_Tn, nm_Tn, rfl, (fun _ => rfl), _, m_44, rfl⟩
theorem pf_Tn_25 : gPut "RidCoppers$Town" 25 7 4 true := ⟨_, _, _, rfl, i_Tn, by decide, tk_Tn, nm_Tn, rfl, (fun _ => rfl), _, m_45, rfl⟩
theorem pf_Tn_28 : gPut "RidCoppers$Town" 28 7 5 true := ⟨_, _, _, rfl, i_Tn, by decide, tk_Tn, nm_Tn, rfl, (fun _ => rfl), _, m_46, rfl⟩
theorem pf_Tn_31 : gPut "RidCoppers$Town" 31 7 6 false := ⟨_, _, _, rfl, i_Tn, by decide, tk_Tn, nm_Tn, rfl, (fun h => by cases h), _, m_47, rfl⟩
theorem pf_Tn_34 : gPut "RidCoppers$Town" 34 7 7 true := ⟨_, _, _, rfl, i_Tn, by decide, tk_Tn, nm_Tn, rfl, (fun _ => rfl), _, m_48, rfl⟩
theorem pf_Tn_37 : gPut "RidCoppers$Town" 37 7 8 false := ⟨_, _, _, rfl, i_Tn, by decide, tk_Tn, nm_Tn, rfl, (fun h => by cases h), _, m_49, rfl⟩
theorem pf_Tn_40 : gPut "RidCoppers$Town" 40 7 9 true := ⟨_, _, _, rfl, i_Tn, by decide, tk_Tn, nm_Tn, rfl, (fun _ => rfl), _, m_50, rfl⟩
theorem pf_Tn_43 : gPut "RidCoppers$Town" 43 7 10 false := ⟨_, _, _, rfl, i_Tn, by decide, tk_Tn, nm_Tn, rfl, (fun h => by cases h), _, m_51, rfl⟩
theorem pf_Tn_47 : gPut "RidCoppers$Town" 47 7 11 false := ⟨_, _, _, rfl, i_Tn, by decide, tk_Tn, nm_Tn, rfl, (fun h => by cases h), _, m_52, rfl⟩
theorem pf_Tn_50 : gPut "RidCoppers$Town" 50 7 12 false := ⟨_, _, _, rfl, i_Tn, by decide, tk_Tn, nm_Tn, rfl, (fun h => by cases h), _, m_53, rfl⟩
theorem pf_Tr_9 : gPut "RidCoppers$Trace" 9 8 0 true := ⟨_, _, _, rfl, i_Tr, by decide, tk_Tr, nm_Tr, rfl, (fun _ => rfl), _, m_218, rfl⟩
theorem pf_Tr_15 : gPut "RidCoppers$Trace" 15 8 1 false := ⟨_, _, _, rfl, i_Tr, by decide, tk_Tr, nm_Tr, rfl, (fun h => by cases h), _, m_220, rfl⟩
theorem pf_Wo_11 : gPut "RidCoppers$World" 11 9 0 true := ⟨_, _, _, rfl, i_Wo, by decide, tk_Wo, nm_Wo, rfl, (fun _ => rfl), _, m_92, rfl⟩
theorem pf_Wo_17 : gPut "RidCoppers$World" 17 9 1 false := ⟨_, _, _, rfl, i_Wo, by decide, tk_Wo, nm_Wo, rfl, (fun h => by cases h), _, m_94, rfl⟩
theorem pf_Wo_23 : gPut "RidCoppers$World" 23 9 2 true := ⟨_, _, _, rfl, i_Wo, by decide, tk_Wo, nm_Wo, rfl, (fun _ => rfl), _, m_96, rfl⟩
theorem pf_Wo_26 : gPut "RidCoppers$World" 26 9 3 true := ⟨_, _, _, rfl, i_Wo, by decide, tk_Wo, nm_Wo, rfl, (fun _ => rfl), _, m_99, rfl⟩
theorem pf_Wo_29 : gPut "RidCoppers$World" 29 9 4 true := ⟨_, _, _, rfl, i_Wo, by decide, tk_Wo, nm_Wo, rfl, (fun _ => rfl), _, m_102, rfl⟩
theorem pf_Wo_33 : gPut "RidCoppers$World" 33 9 5 true := ⟨_, _, _, rfl, i_Wo, by decide, tk_Wo, nm_Wo, rfl, (fun _ => rfl), _, m_107, rfl⟩
theorem pf_Wo_36 : gPut "RidCoppers$World" 36 9 6 true := ⟨_, _, _, rfl, i_Wo, by decide, tk_Wo, nm_Wo, rfl, (fun _ => rfl), _, m_111, rfl⟩
theorem pf_Wo_39 : gPut "RidCoppers$World" 39 9 7 false := ⟨_, _, _, rfl, i_Wo, by decide, tk_Wo, nm_Wo, rfl, (fun h => by cases h), _, m_113, rfl⟩
theorem pf_Wo_42 : gPut "RidCoppers$World" 42 9 8 true := ⟨_, _, _, rfl, i_Wo, by decide, tk_Wo, nm_Wo, rfl, (fun _ => rfl), _, m_115, rfl⟩
theorem pf_Wo_45 : gPut "RidCoppers$World" 45 9 9 true := ⟨_, _, _, rfl, i_Wo, by decide, tk_Wo, nm_Wo, rfl, (fun _ => rfl), _, m_117, rfl⟩
theorem pf_Wo_48 : gPut "RidCoppers$World" 48 9 10 false := ⟨_, _, _, rfl, i_Wo, by decide, tk_Wo, nm_Wo, rfl, (fun h => by cases h), _, m_119, rfl⟩
theorem pf_Wo_51 : gPut "RidCoppers$World" 51 9 11 true := ⟨_, _, _, rfl, i_Wo, by decide, tk_Wo, nm_Wo, rfl, (fun _ => rfl), _, m_121, rfl⟩
theorem pf_Wo_54 : gPut "RidCoppers$World" 54 9 12 true := ⟨_, _, _, rfl, i_Wo, by decide, tk_Wo, nm_Wo, rfl, (fun _ => rfl), _, m_123, rfl⟩
theorem pf_Wo_57 : gPut "RidCoppers$World" 57 9 13 false := ⟨_, _, _, rfl, i_Wo, by decide, tk_Wo, nm_Wo, rfl, (fun h => by cases h), _, m_125, rfl⟩
theorem pf_Wo_60 : gPut "RidCoppers$World" 60 9 14 false := ⟨_, _, _, rfl, i_Wo, by decide, tk_Wo, nm_Wo, rfl, (fun h => by cases h), _, m_127, rfl⟩
theorem pf_M_7 : gPut "RidCoppersModel" 7 12 0 false := ⟨_, _, _, rfl, i_M, by decide, tk_M, nm_M, rfl, (fun h => by cases h), _, m_982, rfl⟩
theorem pf_M_13 : gPut "RidCoppersModel" 13 12 1 true := ⟨_, _, _, rfl, i_M, by decide, tk_M, nm_M, rfl, (fun _ => rfl), _, m_983, rfl⟩
theorem pf_M_17 : gPut "RidCoppersModel" 17 12 2 true := ⟨_, _, _, rfl, i_M, by decide, tk_M, nm_M, rfl, (fun _ => rfl), _, m_984, rfl⟩
theorem pf_M_20 : gPut "RidCoppersModel" 20 12 3 true := ⟨_, _, _, rfl, i_M, by decide, tk_M, nm_M, rfl, (fun _ => rfl), _, m_985, rfl⟩
theorem pf_M_23 : gPut "RidCoppersModel" 23 12 4 true := ⟨_, _, _, rfl, i_M, by decide, tk_M, nm_M, rfl, (fun _ => rfl), _, m_986, rfl⟩
theorem pf_M_26 : gPut "RidCoppersModel" 26 12 5 true := ⟨_, _, _, rfl, i_M, by decide, tk_M, nm_M, rfl, (fun _ => rfl), _, m_987, rfl⟩
theorem pf_M_29 : gPut "RidCoppersModel" 29 12 6 true := ⟨_, _, _, rfl, i_M, by decide, tk_M, nm_M, rfl, (fun _ => rfl), _, m_988, rfl⟩
theorem pf_M_32 : gPut "RidCoppersModel" 32 12 7 true := ⟨_, _, _, rfl, i_M, by decide, tk_M, nm_M, rfl, (fun _ => rfl), _, m_989, rfl⟩
theorem pf_M_35 : gPut "RidCoppersModel" 35 12 8 false := ⟨_, _, _, rfl, i_M, by decide, tk_M, nm_M, rfl, (fun h => by cases h), _, m_990, rfl⟩
theorem pf_M_38 : gPut "RidCoppersModel" 38 12 9 false := ⟨_, _, _, rfl, i_M, by decide, tk_M, nm_M, rfl, (fun h => by cases h), _, m_991, rfl⟩
theorem pf_M_41 : gPut "RidCoppersModel" 41 12 10 false := ⟨_, _, _, rfl, i_M, by decide, tk_M, nm_M, rfl, (fun h => by cases h), _, m_992, rfl⟩
theorem pf_M_44 : gPut "RidCoppersModel" 44 12 11 false := ⟨_, _, _, rfl, i_M, by decide, tk_M, nm_M, rfl, (fun h => by cases h), _, m_993, rfl⟩
theorem pf_M_47 : gPut "RidCoppersModel" 47 12 12 false := ⟨_, _, _, rfl, i_M, by decide, tk_M, nm_M, rfl, (fun h => by cases h), _, m_994, rfl⟩
theorem pf_M_50 : gPut "RidCoppersModel" 50 12 13 true := ⟨_, _, _, rfl, i_M, by decide, tk_M, nm_M, rfl, (fun _ => rfl), _, m_995, rfl⟩
theorem pf_M_53 : gPut "RidCoppersModel" 53 12 14 true := ⟨_, _, _, rfl, i_M, by decide, tk_M, nm_M, rfl, (fun _ => rfl), _, m_996, rfl⟩
theorem pf_M_56 : gPut "RidCoppersModel" 56 12 15 true := ⟨_, _, _, rfl, i_M, by decide, tk_M, nm_M, rfl, (fun _ => rfl), _, m_997, rfl⟩
theorem pf_M_59 : gPut "RidCoppersModel" 59 12 16 true := ⟨_, _, _, rfl, i_M, by decide, tk_M, nm_M, rfl, (fun _ => rfl), _, m_998, rfl⟩
theorem pf_M_62 : gPut "RidCoppersModel" 62 12 17 true := ⟨_, _, _, rfl, i_M, by decide, tk_M, nm_M, rfl, (fun _ => rfl), _, m_999, rfl⟩
theorem pf_M_65 : gPut "RidCoppersModel" 65 12 18 true := ⟨_, _, _, rfl, i_M, by decide, tk_M, nm_M, rfl, (fun _ => rfl), _, m_1000, rfl⟩
theorem pf_M_68 : gPut "RidCoppersModel" 68 12 19 true := ⟨_, _, _, rfl, i_M, by decide, tk_M, nm_M, rfl, (fun _ => rfl), _, m_1001, rfl⟩
theorem pf_M_71 : gPut "RidCoppersModel" 71 12 20 true := ⟨_, _, _, rfl, i_M, by decide, tk_M, nm_M, rfl, (fun _ => rfl), _, m_1002, rfl⟩
theorem pf_M_74 : gPut "RidCoppersModel" 74 12 21 false := ⟨_, _, _, rfl, i_M, by decide, tk_M, nm_M, rfl, (fun h => by cases h), _, m_1003, rfl⟩
theorem pf_M_77 : gPut "RidCoppersModel" 77 12 22 false := ⟨_, _, _, rfl, i_M, by decide, tk_M, nm_M, rfl, (fun h => by cases h), _, m_1004, rfl⟩
theorem pf_M_80 : gPut "RidCoppersModel" 80 12 23 false := ⟨_, _, _, rfl, i_M, by decide, tk_M, nm_M, rfl, (fun h => by cases h), _, m_1005, rfl⟩
theorem pf_M_83 : gPut "RidCoppersModel" 83 12 24 true := ⟨_, _, _, rfl, i_M, by decide, tk_M, nm_M, rfl, (fun _ => rfl), _, m_1006, rfl⟩
theorem pf_M_86 : gPut "RidCoppersModel" 86 12 25 true := ⟨_, _, _, rfl, i_M, by decide, tk_M, nm_M, rfl, (fun _ => rfl), _, m_1007, rfl⟩
theorem pf_M_90 : gPut "RidCoppersModel" 90 12 26 true := ⟨_, _, _, rfl, i_M, by decide, tk_M, nm_M, rfl, (fun _ => rfl), _, m_1008, rfl⟩
theorem pf_M_93 : gPut "RidCoppersModel" 93 12 27 true := ⟨_, _, _, rfl, i_M, by decide, tk_M, nm_M, rfl, (fun _ => rfl), _, m_1009, rfl⟩
theorem pf_M_96 : gPut "RidCoppersModel" 96 12 28 true := ⟨_, _, _, rfl, i_M, by decide, tk_M, nm_M, rfl, (fun _ => rfl), _, m_1010, rfl⟩
theorem pf_M_99 : gPut "RidCoppersModel" 99 12 29 true := ⟨_, _, _, rfl, i_M, by decide, tk_M, nm_M, rfl, (fun _ => rfl), _, m_1011, rfl⟩
theorem pf_M_102 : gPut "RidCoppersModel" 102 12 30 true := ⟨_, _, _, rfl, i_M, by decide, tk_M, nm_M, rfl, (fun _ => rfl), _, m_1012, rfl⟩
theorem pf_M_105 : gPut "RidCoppersModel" 105 12 31 true := ⟨_, _, _, rfl, i_M, by decide, tk_M, nm_M, rfl, (fun _ => rfl), _, m_1013, rfl⟩
theorem pf_M_108 : gPut "RidCoppersModel" 108 12 32 false := ⟨_, _, _, rfl, i_M, by decide, tk_M, nm_M, rfl, (fun h => by cases h), _, m_1014, rfl⟩
theorem pf_M_111 : gPut "RidCoppersModel" 111 12 33 false := ⟨_, _, _, rfl, i_M, by decide, tk_M, nm_M, rfl, (fun h => by cases h), _, m_1015, rfl⟩
theorem pf_M_114 : gPut "RidCoppersModel" 114 12 34 false := ⟨_, _, _, rfl, i_M, by decide, tk_M, nm_M, rfl, (fun h => by cases h), _, m_1016, rfl⟩
theorem pf_M_117 : gPut "RidCoppersModel" 117 12 35 true := ⟨_, _, _, rfl, i_M, by decide, tk_M, nm_M, rfl, (fun _ => rfl), _, m_1017, rfl⟩
theorem pf_M_120 : gPut "RidCoppersModel" 120 12 36 true := ⟨_, _, _, rfl, i_M, by decide, tk_M, nm_M, rfl, (fun _ => rfl), _, m_1018, rfl⟩
theorem pf_M_123 : gPut "RidCoppersModel" 123 12 37 true := ⟨_, _, _, rfl, i_M, by decide, tk_M, nm_M, rfl, (fun _ => rfl), _, m_1019, rfl⟩
theorem pf_M_126 : gPut "RidCoppersModel" 126 12 38 false := ⟨_, _, _, rfl, i_M, by decide, tk_M, nm_M, rfl, (fun h => by cases h), _, m_1020, rfl⟩
theorem pf_M_129 : gPut "RidCoppersModel" 129 12 39 false := ⟨_, _, _, rfl, i_M, by decide, tk_M, nm_M, rfl, (fun h => by cases h), _, m_1021, rfl⟩
theorem pf_M_132 : gPut "RidCoppersModel" 132 12 40 true := ⟨_, _, _, rfl, i_M, by decide, tk_M, nm_M, rfl, (fun _ => rfl), _, m_1022, rfl⟩
theorem pf_M_135 : gPut "RidCoppersModel" 135 12 41 false := ⟨_, _, _, rfl, i_M, by decide, tk_M, nm_M, rfl, (fun h => by cases h), _, m_1023, rfl⟩
theorem pf_M_138 : gPut "RidCoppersModel" 138 12 42 true := ⟨_, _, _, rfl, i_M, by decide, tk_M, nm_M, rfl, (fun _ => rfl), _, m_1024, rfl⟩
theorem pf_M_141 : gPut "RidCoppersModel" 141 12 43 false := ⟨_, _, _, rfl, i_M, by decide, tk_M, nm_M, rfl, (fun h => by cases h), _, m_1025, rfl⟩
theorem pf_M_144 : gPut "RidCoppersModel" 144 12 44 true := ⟨_, _, _, rfl, i_M, by decide, tk_M, nm_M, rfl, (fun _ => rfl), _, m_1026, rfl⟩
theorem pf_M_147 : gPut "RidCoppersModel" 147 12 45 true := ⟨_, _, _, rfl, i_M, by decide, tk_M, nm_M, rfl, (fun _ => rfl), _, m_1027, rfl⟩
theorem pf_M_150 : gPut "RidCoppersModel" 150 12 46 false := ⟨_, _, _, rfl, i_M, by decide, tk_M, nm_M, rfl, (fun h => by cases h), _, m_1028, rfl⟩
theorem pf_M_153 : gPut "RidCoppersModel" 153 12 47 true := ⟨_, _, _, rfl, i_M, by decide, tk_M, nm_M, rfl, (fun _ => rfl), _, m_1029, rfl⟩
theorem pf_M_156 : gPut "RidCoppersModel" 156 12 48 true := ⟨_, _, _, rfl, i_M, by decide, tk_M, nm_M, rfl, (fun _ => rfl), _, m_1030, rfl⟩
theorem pf_M_159 : gPut "RidCoppersModel" 159 12 49 false := ⟨_, _, _, rfl, i_M, by decide, tk_M, nm_M, rfl, (fun h => by cases h), _, m_1031, rfl⟩
theorem pf_M_163 : gPut "RidCoppersModel" 163 12 50 false := ⟨_, _, _, rfl, i_M, by decide, tk_M, nm_M, rfl, (fun h => by cases h), _, m_1032, rfl⟩
theorem pf_M_166 : gPut "RidCoppersModel" 166 12 51 false := ⟨_, _, _, rfl, i_M, by decide, tk_M, nm_M, rfl, (fun h => by cases h), _, m_1033, rfl⟩
theorem pf_M_169 : gPut "RidCoppersModel" 169 12 52 false := ⟨_, _, _, rfl, i_M, by decide, tk_M, nm_M, rfl, (fun h => by cases h), _, m_1034, rfl⟩
theorem pf_M_172 : gPut "RidCoppersModel" 172 12 53 false := ⟨_, _, _, rfl, i_M, by decide, tk_M, nm_M, rfl, (fun h => by cases h), _, m_1035, rfl⟩
theorem pf_M_175 : gPut "RidCoppersModel" 175 12 54 false := ⟨_, _, _, rfl, i_M, by decide, tk_M, nm_M, rfl, (fun h => by cases h), _, m_1036, rfl⟩
theorem pf_M_178 : gPut "RidCoppersModel" 178 12 55 true := ⟨_, _, _, rfl, i_M, by decide, tk_M, nm_M, rfl, (fun _ => rfl), _, m_1037, rfl⟩
theorem pf_M_181 : gPut "RidCoppersModel" 181 12 56 true := ⟨_, _, _, rfl, i_M, by decide, tk_M, nm_M, rfl, (fun _ => rfl), _, m_1038, rfl⟩
theorem pf_M_184 : gPut "RidCoppersModel" 184 12 57 true := ⟨_, _, _, rfl, i_M, by decide, tk_M, nm_M, rfl, (fun _ => rfl), _, m_1039, rfl⟩
theorem pf_M_187 : gPut "RidCoppersModel" 187 12 58 true := ⟨_, _, _, rfl, i_M, by decide, tk_M, nm_M, rfl, (fun _ => rfl), _, m_1040, rfl⟩
theorem pf_M_190 : gPut "RidCoppersModel" 190 12 59 true := ⟨_, _, _, rfl, i_M, by decide, tk_M, nm_M, rfl, (fun _ => rfl), _, m_1041, rfl⟩
theorem pf_M_193 : gPut "RidCoppersModel" 193 12 60 true := ⟨_, _, _, rfl, i_M, by decide, tk_M, nm_M, rfl, (fun _ => rfl), _, m_1042, rfl⟩
theorem pf_M_196 : gPut "RidCoppersModel" 196 12 61 true := ⟨_, _, _, rfl, i_M, by decide, tk_M, nm_M, rfl, (fun _ => rfl), _, m_1043, rfl⟩
theorem pf_M_199 : gPut "RidCoppersModel" 199 12 62 true := ⟨_, _, _, rfl, i_M, by decide, tk_M, nm_M, rfl, (fun _ => rfl), _, m_1044, rfl⟩
theorem pf_M_202 : gPut "RidCoppersModel" 202 12 63 true := ⟨_, _, _, rfl, i_M, by decide, tk_M, nm_M, rfl, (fun _ => rfl), _, m_1045, rfl⟩
theorem pf_M_205 : gPut "RidCoppersModel" 205 12 64 true := ⟨_, _, _, rfl, i_M, by decide, tk_M, nm_M, rfl, (fun _ => rfl), _, m_1046, rfl⟩
theorem pf_M_208 : gPut "RidCoppersModel" 208 12 65 true := ⟨_, _, _, rfl, i_M, by decide, tk_M, nm_M, rfl, (fun _ => rfl), _, m_1047, rfl⟩
theorem pf_M_211 : gPut "RidCoppersModel" 211 12 66 false := ⟨_, _, _, rfl, i_M, by decide, tk_M, nm_M, rfl, (fun h => by cases h), _, m_1048, rfl⟩
theorem pf_M_214 : gPut "RidCoppersModel" 214 12 67 true := ⟨_, _, _, rfl, i_M, by decide, tk_M, nm_M, rfl, (fun _ => rfl), _, m_1049, rfl⟩
theorem pf_M_217 : gPut "RidCoppersModel" 217 12 68 true := ⟨_, _, _, rfl, i_M, by decide, tk_M, nm_M, rfl, (fun _ => rfl), _, m_1050, rfl⟩
theorem pf_M_220 : gPut "RidCoppersModel" 220 12 69 true := ⟨_, _, _, rfl, i_M, by decide, tk_M, nm_M, rfl, (fun _ => rfl), _, m_1051, rfl⟩
theorem pf_M_223 : gPut "RidCoppersModel" 223 12 70 true := ⟨_, _, _, rfl, i_M, by decide, tk_M, nm_M, rfl, (fun _ => rfl), _, m_1052, rfl⟩
theorem pf_M_227 : gPut "RidCoppersModel" 227 12 71 true := ⟨_, _, _, rfl, i_M, by decide, tk_M, nm_M, rfl, (fun _ => rfl), _, m_1053, rfl⟩
theorem I_E_init : gMI y_E_init b_E_init 4 none 3 := ⟨m_285, m_284, m_8, ⟨by decide +kernel, by decide +kernel⟩, by decide +kernel⟩
theorem I_E_rank : gMI y_E_rank b_E_rank 2 (some .long) 1 := ⟨m_664, m_663, m_8, ⟨by decide +kernel, by decide +kernel⟩, by decide +kernel⟩
theorem I_E_hands : gMI y_E_hands b_E_hands 3 (some .int) 2 := ⟨m_895, m_894, m_8, ⟨by decide +kernel, by decide +kernel⟩, by decide +kernel⟩
theorem I_Ke_init : gMI y_Ke_init b_Ke_init 4 none 3 := ⟨m_327, m_326, m_10, ⟨by decide +kernel, by decide +kernel⟩, by decide +kernel⟩
theorem I_Ke_partsWith : gMI y_Ke_partsWith b_Ke_partsWith 3 (some .boolean) 2 := ⟨m_634, m_633, m_10, ⟨by decide +kernel, by decide +kernel⟩, by decide +kernel⟩
theorem I_Ke_tells : gMI y_Ke_tells b_Ke_tells 3 (some .int) 2 := ⟨m_920, m_919, m_10, ⟨by decide +kernel, by decide +kernel⟩, by decide +kernel⟩
theorem I_Li_init : gMI y_Li_init b_Li_init 3 none 2 := ⟨m_337, m_336, m_11, ⟨by decide +kernel, by decide +kernel⟩, by decide +kernel⟩
theorem I_Li_rank : gMI y_Li_rank b_Li_rank 2 (some .long) 1 := ⟨m_673, m_672, m_11, ⟨by decide +kernel, by decide +kernel⟩, by decide +kernel⟩
theorem I_Li_thinksOfWeight : gMI y_Li_thinksOfWeight b_Li_thinksOfWeight 1 (some .boolean) 0 := ⟨m_652, m_651, m_11, ⟨by decide +kernel, by decide +kernel⟩, by decide +kernel⟩
theorem I_Li_counts : gMI y_Li_counts b_Li_counts 3 (some .int) 2 := ⟨m_867, m_866, m_11, ⟨by decide +kernel, by decide +kernel⟩, by decide +kernel⟩
theorem I_Li_hands : gMI y_Li_hands b_Li_hands 3 (some .int) 2 := ⟨m_901, m_900, m_11, ⟨by decide +kernel, by decide +kernel⟩, by decide +kernel⟩
theorem I_P_init : gMI y_P_init b_P_init 4 none 3 := ⟨m_288, m_287, m_7, ⟨by decide +kernel, by decide +kernel⟩, by decide +kernel⟩
theorem I_P_partsWith : gMI y_P_partsWith b_P_partsWith 3 (some .boolean) 2 := ⟨m_641, m_628, m_7, ⟨by decide +kernel, by decide +kernel⟩, by decide +kernel⟩
theorem I_P_rank : gMI y_P_rank b_P_rank 2 (some .long) 1 := ⟨m_693, m_659, m_7, ⟨by decide +kernel, by decide +kernel⟩, by decide +kernel⟩
theorem I_P_thinksOfWeight : gMI y_P_thinksOfWeight b_P_thinksOfWeight 1 (some .boolean) 0 := ⟨m_656, m_645, m_7, ⟨by decide +kernel, by decide +kernel⟩, by decide +kernel⟩
theorem I_P_ranked : gMS y_P_ranked b_P_ranked 2 (some .long) 2 := ⟨m_668, m_667, m_7, ⟨by decide +kernel, by decide +kernel⟩, by decide +kernel⟩
theorem I_P_counts : gMI y_P_counts b_P_counts 3 (some .int) 2 := ⟨m_887, m_860, m_7, ⟨by decide +kernel, by decide +kernel⟩, by decide +kernel⟩
theorem I_P_hands : gMI y_P_hands b_P_hands 3 (some .int) 2 := ⟨m_911, m_890, m_7, ⟨by decide +kernel, by decide +kernel⟩, by decide +kernel⟩
theorem I_P_tells : gMI y_P_tells b_P_tells 3 (some .int) 2 := ⟨m_936, m_914, m_7, ⟨by decide +kernel, by decide +kernel⟩, by decide +kernel⟩
theorem I_Pm_init : gMI y_Pm_init b_Pm_init 1 none 0 := ⟨m_165, m_164, m_4, ⟨by decide +kernel, by decide +kernel⟩, by decide +kernel⟩
theorem I_Pm_choose : gMI y_Pm_choose b_Pm_choose 12 (some .boolean) 3 := ⟨m_621, m_619, m_4, ⟨by decide +kernel, by decide +kernel⟩, by decide +kernel⟩
theorem I_Pm_canPay : gMI y_Pm_canPay b_Pm_canPay 6 (some .boolean) 3 := ⟨m_792, m_790, m_4, ⟨by decide +kernel, by decide +kernel⟩, by decide +kernel⟩
theorem I_Pm_leastBehind : gMI y_Pm_leastBehind b_Pm_leastBehind 8 (some .int) 4 := ⟨m_736, m_734, m_4, ⟨by decide +kernel, by decide +kernel⟩, by decide +kernel⟩
theorem I_Pm_exactPrices : gMI y_Pm_exactPrices b_Pm_exactPrices 7 (some .int) 2 := ⟨m_747, m_745, m_4, ⟨by decide +kernel, by decide +kernel⟩, by decide +kernel⟩
theorem I_Pm_settle : gMI y_Pm_settle b_Pm_settle 3 none 0 := ⟨m_718, m_716, m_4, ⟨by decide +kernel, by decide +kernel⟩, by decide +kernel⟩
theorem I_Pm_coinsBehind : gMI y_Pm_coinsBehind b_Pm_coinsBehind 3 (some .int) 0 := ⟨m_726, m_724, m_4, ⟨by decide +kernel, by decide +kernel⟩, by decide +kernel⟩
theorem I_Pm_weightBehind : gMI y_Pm_weightBehind b_Pm_weightBehind 3 (some .int) 0 := ⟨m_677, m_675, m_4, ⟨by decide +kernel, by decide +kernel⟩, by decide +kernel⟩
theorem I_Pm_purseBehind : gMI y_Pm_purseBehind b_Pm_purseBehind 2 (some .int) 1 := ⟨m_681, m_680, m_4, ⟨by decide +kernel, by decide +kernel⟩, by decide +kernel⟩
theorem I_Pm_begin : gMI y_Pm_begin b_Pm_begin 8 (some .int) 3 := ⟨m_625, m_624, m_4, ⟨by decide +kernel, by decide +kernel⟩, by decide +kernel⟩
theorem I_Pm_advance : gMI y_Pm_advance b_Pm_advance 2 none 0 := ⟨m_710, m_709, m_4, ⟨by decide +kernel, by decide +kernel⟩, by decide +kernel⟩
theorem I_Pm_pays : gMI y_Pm_pays b_Pm_pays 3 (some .boolean) 0 := ⟨m_698, m_697, m_4, ⟨by decide +kernel, by decide +kernel⟩, by decide +kernel⟩
theorem I_Pm_nothingOverflows : gMI y_Pm_nothingOverflows b_Pm_nothingOverflows 2 (some .boolean) 0 := ⟨m_703, m_702, m_4, ⟨by decide +kernel, by decide +kernel⟩, by decide +kernel⟩
theorem I_Pm_standAtBest : gMI y_Pm_standAtBest b_Pm_standAtBest 2 none 0 := ⟨m_714, m_713, m_4, ⟨by decide +kernel, by decide +kernel⟩, by decide +kernel⟩
theorem I_Ro_init : gMI y_Ro_init b_Ro_init 4 none 3 := ⟨m_317, m_316, m_9, ⟨by decide +kernel, by decide +kernel⟩, by decide +kernel⟩
theorem I_Ro_rank : gMI y_Ro_rank b_Ro_rank 2 (some .long) 1 := ⟨m_684, m_683, m_9, ⟨by decide +kernel, by decide +kernel⟩, by decide +kernel⟩
theorem I_Ro_counts : gMI y_Ro_counts b_Ro_counts 3 (some .int) 2 := ⟨m_877, m_876, m_9, ⟨by decide +kernel, by decide +kernel⟩, by decide +kernel⟩
theorem I_To_init : gMI y_To_init b_To_init 3 none 2 := ⟨m_357, m_356, m_13, ⟨by decide +kernel, by decide +kernel⟩, by decide +kernel⟩
theorem I_To_partsWith : gMI y_To_partsWith b_To_partsWith 3 (some .boolean) 2 := ⟨m_639, m_638, m_13, ⟨by decide +kernel, by decide +kernel⟩, by decide +kernel⟩
theorem I_To_hands : gMI y_To_hands b_To_hands 3 (some .int) 2 := ⟨m_906, m_905, m_13, ⟨by decide +kernel, by decide +kernel⟩, by decide +kernel⟩
theorem I_To_counts : gMI y_To_counts b_To_counts 3 (some .int) 2 := ⟨m_882, m_881, m_13, ⟨by decide +kernel, by decide +kernel⟩, by decide +kernel⟩
theorem I_Tn_init : gMI y_Tn_init b_Tn_init 2 none 0 := ⟨m_34, m_33, m_2, ⟨by decide +kernel, by decide +kernel⟩, by decide +kernel⟩
theorem I_Tn_faultOf : gMI y_Tn_faultOf b_Tn_faultOf 5 (some .int) 2 := ⟨m_437, m_435, m_2, ⟨by decide +kernel, by decide +kernel⟩, by decide +kernel⟩
theorem I_Tn_kept : gMI y_Tn_kept b_Tn_kept 4 (some .int) 3 := ⟨m_384, m_382, m_2, ⟨by decide +kernel, by decide +kernel⟩, by decide +kernel⟩
theorem I_Tn_findMost : gMI y_Tn_findMost b_Tn_findMost 2 none 0 := ⟨m_601, m_600, m_2, ⟨by decide +kernel, by decide +kernel⟩, by decide +kernel⟩
theorem I_Tn_findHefts : gMI y_Tn_findHefts b_Tn_findHefts 3 none 0 := ⟨m_606, m_605, m_2, ⟨by decide +kernel, by decide +kernel⟩, by decide +kernel⟩
theorem I_Tn_factsOf : gMI y_Tn_factsOf b_Tn_factsOf 3 none 1 := ⟨m_388, m_387, m_2, ⟨by decide +kernel, by decide +kernel⟩, by decide +kernel⟩
theorem I_Tn_together : gMI y_Tn_together b_Tn_together 4 (some .int) 1 := ⟨m_394, m_393, m_2, ⟨by decide +kernel, by decide +kernel⟩, by decide +kernel⟩
theorem I_Tn_holds : gMI y_Tn_holds b_Tn_holds 7 (some .boolean) 2 := ⟨m_398, m_397, m_2, ⟨by decide +kernel, by decide +kernel⟩, by decide +kernel⟩
theorem I_Tn_testHolds : gMI y_Tn_testHolds b_Tn_testHolds 4 (some .boolean) 1 := ⟨m_402, m_401, m_2, ⟨by decide +kernel, by decide +kernel⟩, by decide +kernel⟩
theorem I_Tn_clause : gMI y_Tn_clause b_Tn_clause 3 (some .boolean) 0 := ⟨m_441, m_440, m_2, ⟨by decide +kernel, by decide +kernel⟩, by decide +kernel⟩
theorem I_Tn_takesWord : gMI y_Tn_takesWord b_Tn_takesWord 4 (some .boolean) 1 := ⟨m_449, m_448, m_2, ⟨by decide +kernel, by decide +kernel⟩, by decide +kernel⟩
theorem I_Tn_either : gMI y_Tn_either b_Tn_either 4 (some .boolean) 1 := ⟨m_516, m_515, m_2, ⟨by decide +kernel, by decide +kernel⟩, by decide +kernel⟩
theorem I_Tn_both : gMI y_Tn_both b_Tn_both 4 (some .boolean) 1 := ⟨m_520, m_519, m_2, ⟨by decide +kernel, by decide +kernel⟩, by decide +kernel⟩
theorem I_Tn_single : gMI y_Tn_single b_Tn_single 4 (some .boolean) 1 := ⟨m_524, m_523, m_2, ⟨by decide +kernel, by decide +kernel⟩, by decide +kernel⟩
theorem I_Tn_test : gMI y_Tn_test b_Tn_test 4 (some .boolean) 0 := ⟨m_528, m_527, m_2, ⟨by decide +kernel, by decide +kernel⟩, by decide +kernel⟩
theorem I_Tn_number : gMI y_Tn_number b_Tn_number 2 (some .int) 0 := ⟨m_508, m_507, m_2, ⟨by decide +kernel, by decide +kernel⟩, by decide +kernel⟩
theorem I_Tn_isDigitAhead : gMI y_Tn_isDigitAhead b_Tn_isDigitAhead 1 (some .boolean) 0 := ⟨m_512, m_511, m_2, ⟨by decide +kernel, by decide +kernel⟩, by decide +kernel⟩
theorem I_Tn_takes : gMI y_Tn_takes b_Tn_takes 2 (some .boolean) 1 := ⟨m_504, m_503, m_2, ⟨by decide +kernel, by decide +kernel⟩, by decide +kernel⟩
theorem I_Tn_takesOneOf : gMI y_Tn_takesOneOf b_Tn_takesOneOf 4 (some .int) 1 := ⟨m_533, m_532, m_2, ⟨by decide +kernel, by decide +kernel⟩, by decide +kernel⟩
theorem I_Tn_ahead : gMI y_Tn_ahead b_Tn_ahead 1 (some .int) 0 := ⟨m_445, m_444, m_2, ⟨by decide +kernel, by decide +kernel⟩, by decide +kernel⟩
theorem I_Tn_emit : gMI y_Tn_emit b_Tn_emit 2 none 1 := ⟨m_597, m_596, m_2, ⟨by decide +kernel, by decide +kernel⟩, by decide +kernel⟩
theorem I_Tr_init : gMI y_Tr_init b_Tr_init 1 none 0 := ⟨m_216, m_215, m_5, ⟨by decide +kernel, by decide +kernel⟩, by decide +kernel⟩
theorem I_Tr_begins : gMI y_Tr_begins b_Tr_begins 2 none 1 := ⟨m_871, m_869, m_5, ⟨by decide +kernel, by decide +kernel⟩, by decide +kernel⟩
theorem I_Wi_init : gMI y_Wi_init b_Wi_init 3 none 2 := ⟨m_347, m_346, m_12, ⟨by decide +kernel, by decide +kernel⟩, by decide +kernel⟩
theorem I_Wi_rank : gMI y_Wi_rank b_Wi_rank 2 (some .long) 1 := ⟨m_690, m_689, m_12, ⟨by decide +kernel, by decide +kernel⟩, by decide +kernel⟩
theorem I_Wi_tells : gMI y_Wi_tells b_Wi_tells 3 (some .int) 2 := ⟨m_931, m_930, m_12, ⟨by decide +kernel, by decide +kernel⟩, by decide +kernel⟩
theorem I_Wo_init : gMI y_Wo_init b_Wo_init 2 none 1 := ⟨m_86, m_85, m_3, ⟨by decide +kernel, by decide +kernel⟩, by decide +kernel⟩
theorem I_Wo_become : gMI y_Wo_become b_Wo_become 3 none 1 := ⟨m_769, m_767, m_3, ⟨by decide +kernel, by decide +kernel⟩, by decide +kernel⟩
theorem I_Wo_weight : gMI y_Wo_weight b_Wo_weight 4 (some .int) 1 := ⟨m_406, m_404, m_3, ⟨by decide +kernel, by decide +kernel⟩, by decide +kernel⟩
theorem I_Wo_coins : gMI y_Wo_coins b_Wo_coins 4 (some .int) 1 := ⟨m_410, m_408, m_3, ⟨by decide +kernel, by decide +kernel⟩, by decide +kernel⟩
theorem I_Wo_worth : gMI y_Wo_worth b_Wo_worth 4 (some .int) 1 := ⟨m_787, m_785, m_3, ⟨by decide +kernel, by decide +kernel⟩, by decide +kernel⟩
theorem I_X_init : gMI y_X_init b_X_init 2 none 0 := ⟨m_26, m_25, m_1, ⟨by decide +kernel, by decide +kernel⟩, by decide +kernel⟩
theorem I_X_payer : gMI y_X_payer b_X_payer 4 (some .int) 2 := ⟨m_277, m_275, m_1, ⟨by decide +kernel, by decide +kernel⟩, by decide +kernel⟩
theorem I_X_of : gMI y_X_of b_X_of 4 (some .int) 2 := ⟨m_373, m_371, m_1, ⟨by decide +kernel, by decide +kernel⟩, by decide +kernel⟩
theorem I_X_purse : gMI y_X_purse b_X_purse 4 (some .int) 3 := ⟨m_414, m_412, m_1, ⟨by decide +kernel, by decide +kernel⟩, by decide +kernel⟩
theorem I_X_till : gMI y_X_till b_X_till 3 (some .int) 2 := ⟨m_421, m_419, m_1, ⟨by decide +kernel, by decide +kernel⟩, by decide +kernel⟩
theorem I_X_row : gMI y_X_row b_X_row 6 (some .int) 3 := ⟨m_425, m_423, m_1, ⟨by decide +kernel, by decide +kernel⟩, by decide +kernel⟩
theorem I_X_feed : gMI y_X_feed b_X_feed 2 (some .int) 1 := ⟨m_429, m_427, m_1, ⟨by decide +kernel, by decide +kernel⟩, by decide +kernel⟩
theorem I_X_town : gMI y_X_town b_X_town 3 (some .int) 0 := ⟨m_433, m_431, m_1, ⟨by decide +kernel, by decide +kernel⟩, by decide +kernel⟩
theorem I_X_told : gMI y_X_told b_X_told 2 (some .int) 1 := ⟨m_610, m_608, m_1, ⟨by decide +kernel, by decide +kernel⟩, by decide +kernel⟩
theorem I_X_pay : gMI y_X_pay b_X_pay 4 (some .int) 2 := ⟨m_614, m_612, m_1, ⟨by decide +kernel, by decide +kernel⟩, by decide +kernel⟩
theorem I_X_would : gMI y_X_would b_X_would 6 (some .int) 3 := ⟨m_722, m_720, m_1, ⟨by decide +kernel, by decide +kernel⟩, by decide +kernel⟩
theorem I_X_least : gMI y_X_least b_X_least 5 (some .int) 3 := ⟨m_732, m_730, m_1, ⟨by decide +kernel, by decide +kernel⟩, by decide +kernel⟩
theorem I_X_exactly : gMI y_X_exactly b_X_exactly 3 (some .int) 1 := ⟨m_743, m_741, m_1, ⟨by decide +kernel, by decide +kernel⟩, by decide +kernel⟩
theorem I_X_price : gMI y_X_price b_X_price 2 (some .int) 1 := ⟨m_757, m_755, m_1, ⟨by decide +kernel, by decide +kernel⟩, by decide +kernel⟩
theorem I_X_behind : gMI y_X_behind b_X_behind 5 (some .int) 2 := ⟨m_761, m_759, m_1, ⟨by decide +kernel, by decide +kernel⟩, by decide +kernel⟩
theorem I_X_who : gMI y_X_who b_X_who 4 (some .int) 0 := ⟨m_774, m_772, m_1, ⟨by decide +kernel, by decide +kernel⟩, by decide +kernel⟩
theorem I_X_next : gMI y_X_next b_X_next 6 (some .int) 1 := ⟨m_779, m_777, m_1, ⟨by decide +kernel, by decide +kernel⟩, by decide +kernel⟩
theorem I_X_shortOf : gMI y_X_shortOf b_X_shortOf 5 (some .int) 1 := ⟨m_783, m_781, m_1, ⟨by decide +kernel, by decide +kernel⟩, by decide +kernel⟩
theorem I_X_more : gMI y_X_more b_X_more 6 (some .int) 3 := ⟨m_796, m_794, m_1, ⟨by decide +kernel, by decide +kernel⟩, by decide +kernel⟩
theorem I_X_heaviest : gMI y_X_heaviest b_X_heaviest 6 (some .int) 2 := ⟨m_803, m_801, m_1, ⟨by decide +kernel, by decide +kernel⟩, by decide +kernel⟩
theorem I_X_see : gMI y_X_see b_X_see 3 (some .int) 2 := ⟨m_808, m_806, m_1, ⟨by decide +kernel, by decide +kernel⟩, by decide +kernel⟩
theorem I_X_fits : gMI y_X_fits b_X_fits 3 (some .int) 0 := ⟨m_812, m_810, m_1, ⟨by decide +kernel, by decide +kernel⟩, by decide +kernel⟩
theorem I_X_odds : gMI y_X_odds b_X_odds 6 (some .long) 2 := ⟨m_820, m_818, m_1, ⟨by decide +kernel, by decide +kernel⟩, by decide +kernel⟩
theorem I_X_mean : gMI y_X_mean b_X_mean 6 (some .long) 2 := ⟨m_831, m_829, m_1, ⟨by decide +kernel, by decide +kernel⟩, by decide +kernel⟩
theorem I_X_book : gMI y_X_book b_X_book 3 (some .int) 2 := ⟨m_835, m_833, m_1, ⟨by decide +kernel, by decide +kernel⟩, by decide +kernel⟩
theorem I_X_looked : gMI y_X_looked b_X_looked 3 (some .int) 0 := ⟨m_839, m_837, m_1, ⟨by decide +kernel, by decide +kernel⟩, by decide +kernel⟩
theorem I_X_judge : gMI y_X_judge b_X_judge 4 (some .int) 2 := ⟨m_843, m_841, m_1, ⟨by decide +kernel, by decide +kernel⟩, by decide +kernel⟩
theorem I_X_image : gMI y_X_image b_X_image 1 (some .int) 0 := ⟨m_850, m_848, m_1, ⟨by decide +kernel, by decide +kernel⟩, by decide +kernel⟩
theorem I_X_undo : gMI y_X_undo b_X_undo 1 (some .int) 0 := ⟨m_854, m_852, m_1, ⟨by decide +kernel, by decide +kernel⟩, by decide +kernel⟩
theorem I_X_act : gMI y_X_act b_X_act 5 (some .int) 3 := ⟨m_858, m_856, m_1, ⟨by decide +kernel, by decide +kernel⟩, by decide +kernel⟩
theorem I_X_trace : gMI y_X_trace b_X_trace 2 (some .int) 1 := ⟨m_941, m_939, m_1, ⟨by decide +kernel, by decide +kernel⟩, by decide +kernel⟩
theorem I_X_taken : gMI y_X_taken b_X_taken 4 (some .int) 2 := ⟨m_945, m_943, m_1, ⟨by decide +kernel, by decide +kernel⟩, by decide +kernel⟩
theorem I_X_count : gMI y_X_count b_X_count 2 (some .int) 1 := ⟨m_952, m_950, m_1, ⟨by decide +kernel, by decide +kernel⟩, by decide +kernel⟩
theorem I_X_tape : gMI y_X_tape b_X_tape 5 (some .int) 3 := ⟨m_956, m_954, m_1, ⟨by decide +kernel, by decide +kernel⟩, by decide +kernel⟩
theorem I_X_item : gMI y_X_item b_X_item 5 (some .int) 3 := ⟨m_960, m_958, m_1, ⟨by decide +kernel, by decide +kernel⟩, by decide +kernel⟩
theorem I_X_read : gMI y_X_read b_X_read 3 (some .long) 2 := ⟨m_967, m_965, m_1, ⟨by decide +kernel, by decide +kernel⟩, by decide +kernel⟩
theorem I_X_shift : gMI y_X_shift b_X_shift 6 (some .int) 5 := ⟨m_971, m_969, m_1, ⟨by decide +kernel, by decide +kernel⟩, by decide +kernel⟩
theorem I_X_payerAt : gMI y_X_payerAt b_X_payerAt 2 (some (FieldType.object "RidCoppers$Payer")) 1 := ⟨m_377, m_376, m_1, ⟨by decide +kernel, by decide +kernel⟩, by decide +kernel⟩
theorem I_X_newPayer : gMS y_X_newPayer b_X_newPayer 3 (some (FieldType.object "RidCoppers$Payer")) 3 := ⟨m_280, m_279, m_1, ⟨by decide +kernel, by decide +kernel⟩, by decide +kernel⟩
theorem I_X_isOfKind : gMS y_X_isOfKind b_X_isOfKind 2 (some .boolean) 2 := ⟨m_948, m_947, m_1, ⟨by decide +kernel, by decide +kernel⟩, by decide +kernel⟩
theorem I_X_isSort : gMS y_X_isSort b_X_isSort 1 (some .boolean) 1 := ⟨m_380, m_379, m_1, ⟨by decide +kernel, by decide +kernel⟩, by decide +kernel⟩
theorem I_X_isPrice : gMS y_X_isPrice b_X_isPrice 1 (some .boolean) 1 := ⟨m_617, m_616, m_1, ⟨by decide +kernel, by decide +kernel⟩, by decide +kernel⟩
theorem I_X_isTape : gMS y_X_isTape b_X_isTape 1 (some .boolean) 1 := ⟨m_846, m_845, m_1, ⟨by decide +kernel, by decide +kernel⟩, by decide +kernel⟩
theorem I_X_isStretch : gMS y_X_isStretch b_X_isStretch 3 (some .boolean) 3 := ⟨m_974, m_973, m_1, ⟨by decide +kernel, by decide +kernel⟩, by decide +kernel⟩
theorem I_X_exchange : gMS y_X_exchange b_X_exchange 4 (some .int) 3 := ⟨m_417, m_416, m_1, ⟨by decide +kernel, by decide +kernel⟩, by decide +kernel⟩
theorem I_X_payRowOnTrial : gMI y_X_payRowOnTrial b_X_payRowOnTrial 4 (some .int) 1 := ⟨m_765, m_764, m_1, ⟨by decide +kernel, by decide +kernel⟩, by decide +kernel⟩
theorem I_X_fitsAllSeen : gMI y_X_fitsAllSeen b_X_fitsAllSeen 3 (some .boolean) 1 := ⟨m_816, m_815, m_1, ⟨by decide +kernel, by decide +kernel⟩, by decide +kernel⟩
theorem I_X_partOfFraction : gMS y_X_partOfFraction b_X_partOfFraction 4 (some .long) 3 := ⟨m_824, m_823, m_1, ⟨by decide +kernel, by decide +kernel⟩, by decide +kernel⟩
theorem I_X_commonDivisor : gMS y_X_commonDivisor b_X_commonDivisor 6 (some .int) 2 := ⟨m_827, m_826, m_1, ⟨by decide +kernel, by decide +kernel⟩, by decide +kernel⟩
theorem I_X_narrowed : gMS y_X_narrowed b_X_narrowed 3 (some .long) 2 := ⟨m_963, m_962, m_1, ⟨by decide +kernel, by decide +kernel⟩, by decide +kernel⟩
theorem I_M_init : gMI y_M_init b_M_init 1 none 0 := ⟨m_980, m_979, m_6, ⟨by decide +kernel, by decide +kernel⟩, by decide +kernel⟩
theorem I_M_in : gMI y_M_in b_M_in 4 (some .boolean) 3 := ⟨m_1207, m_1206, m_6, ⟨by decide +kernel, by decide +kernel⟩, by decide +kernel⟩
theorem I_M_isPayer : gMI y_M_isPayer b_M_isPayer 2 (some .boolean) 1 := ⟨m_1215, m_1214, m_6, ⟨by decide +kernel, by decide +kernel⟩, by decide +kernel⟩
theorem I_M_isSort : gMI y_M_isSort b_M_isSort 2 (some .boolean) 1 := ⟨m_1219, m_1218, m_6, ⟨by decide +kernel, by decide +kernel⟩, by decide +kernel⟩
theorem I_M_isPrice : gMI y_M_isPrice b_M_isPrice 2 (some .boolean) 1 := ⟨m_1347, m_1346, m_6, ⟨by decide +kernel, by decide +kernel⟩, by decide +kernel⟩
theorem I_M_payer : gMI y_M_payer b_M_payer 4 (some .int) 2 := ⟨m_1203, m_1201, m_6, ⟨by decide +kernel, by decide +kernel⟩, by decide +kernel⟩
theorem I_M_purse : gMI y_M_purse b_M_purse 5 (some .int) 3 := ⟨m_1211, m_1209, m_6, ⟨by decide +kernel, by decide +kernel⟩, by decide +kernel⟩
theorem I_M_till : gMI y_M_till b_M_till 4 (some .int) 2 := ⟨m_1223, m_1221, m_6, ⟨by decide +kernel, by decide +kernel⟩, by decide +kernel⟩
theorem I_M_row : gMI y_M_row b_M_row 5 (some .int) 3 := ⟨m_1227, m_1225, m_6, ⟨by decide +kernel, by decide +kernel⟩, by decide +kernel⟩
theorem I_M_feed : gMI y_M_feed b_M_feed 2 (some .int) 1 := ⟨m_1231, m_1229, m_6, ⟨by decide +kernel, by decide +kernel⟩, by decide +kernel⟩
theorem I_M_peek : gMI y_M_peek b_M_peek 1 (some .int) 0 := ⟨m_1251, m_1250, m_6, ⟨by decide +kernel, by decide +kernel⟩, by decide +kernel⟩
theorem I_M_takes : gMI y_M_takes b_M_takes 2 (some .boolean) 1 := ⟨m_1259, m_1258, m_6, ⟨by decide +kernel, by decide +kernel⟩, by decide +kernel⟩
theorem I_M_takesWord : gMI y_M_takesWord b_M_takesWord 4 (some .boolean) 2 := ⟨m_1255, m_1254, m_6, ⟨by decide +kernel, by decide +kernel⟩, by decide +kernel⟩
theorem I_M_isDigit : gMI y_M_isDigit b_M_isDigit 1 (some .boolean) 0 := ⟨m_1267, m_1266, m_6, ⟨by decide +kernel, by decide +kernel⟩, by decide +kernel⟩
theorem I_M_takesNumber : gMI y_M_takesNumber b_M_takesNumber 2 (some .boolean) 0 := ⟨m_1263, m_1262, m_6, ⟨by decide +kernel, by decide +kernel⟩, by decide +kernel⟩
theorem I_M_emits : gMI y_M_emits b_M_emits 2 none 1 := ⟨m_1283, m_1282, m_6, ⟨by decide +kernel, by decide +kernel⟩, by decide +kernel⟩
theorem I_M_whole : gMI y_M_whole b_M_whole 1 none 0 := ⟨m_1287, m_1286, m_6, ⟨by decide +kernel, by decide +kernel⟩, by decide +kernel⟩
theorem I_M_settle : gMI y_M_settle b_M_settle 2 none 1 := ⟨m_1291, m_1290, m_6, ⟨by decide +kernel, by decide +kernel⟩, by decide +kernel⟩
theorem I_M_place : gMI y_M_place b_M_place 2 (some .int) 1 := ⟨m_1279, m_1278, m_6, ⟨by decide +kernel, by decide +kernel⟩, by decide +kernel⟩
theorem I_M_takesTest : gMI y_M_takesTest b_M_takesTest 3 (some .boolean) 0 := ⟨m_1275, m_1274, m_6, ⟨by decide +kernel, by decide +kernel⟩, by decide +kernel⟩
theorem I_M_takesE : gMI y_M_takesE b_M_takesE 4 (some .boolean) 1 := ⟨m_1271, m_1270, m_6, ⟨by decide +kernel, by decide +kernel⟩, by decide +kernel⟩
theorem I_M_takesHead : gMI y_M_takesHead b_M_takesHead 2 (some .boolean) 1 := ⟨m_1247, m_1246, m_6, ⟨by decide +kernel, by decide +kernel⟩, by decide +kernel⟩
theorem I_M_takesClause : gMI y_M_takesClause b_M_takesClause 2 (some .boolean) 1 := ⟨m_1243, m_1242, m_6, ⟨by decide +kernel, by decide +kernel⟩, by decide +kernel⟩
theorem I_M_goesText : gMI y_M_goesText b_M_goesText 3 (some .boolean) 1 := ⟨m_1239, m_1238, m_6, ⟨by decide +kernel, by decide +kernel⟩, by decide +kernel⟩
theorem I_M_town : gMI y_M_town b_M_town 2 (some .int) 0 := ⟨m_1235, m_1233, m_6, ⟨by decide +kernel, by decide +kernel⟩, by decide +kernel⟩
theorem I_M_begin : gMI y_M_begin b_M_begin 1 (some .int) 0 := ⟨m_1307, m_1306, m_6, ⟨by decide +kernel, by decide +kernel⟩, by decide +kernel⟩
theorem I_M_behindText : gMI y_M_behindText b_M_behindText 1 (some .int) 0 := ⟨m_1311, m_1310, m_6, ⟨by decide +kernel, by decide +kernel⟩, by decide +kernel⟩
theorem I_M_mostNow : gMI y_M_mostNow b_M_mostNow 3 (some .int) 0 := ⟨m_1339, m_1338, m_6, ⟨by decide +kernel, by decide +kernel⟩, by decide +kernel⟩
theorem I_M_factOf : gMI y_M_factOf b_M_factOf 4 (some .int) 3 := ⟨m_1319, m_1318, m_6, ⟨by decide +kernel, by decide +kernel⟩, by decide +kernel⟩
theorem I_M_holds : gMI y_M_holds b_M_holds 9 (some .boolean) 3 := ⟨m_1315, m_1314, m_6, ⟨by decide +kernel, by decide +kernel⟩, by decide +kernel⟩
theorem I_M_sumOf : gMI y_M_sumOf b_M_sumOf 8 (some .int) 4 := ⟨m_1303, m_1302, m_6, ⟨by decide +kernel, by decide +kernel⟩, by decide +kernel⟩
theorem I_M_heft : gMI y_M_heft b_M_heft 2 (some .int) 1 := ⟨m_1327, m_1326, m_6, ⟨by decide +kernel, by decide +kernel⟩, by decide +kernel⟩
theorem I_M_kept : gMI y_M_kept b_M_kept 3 (some .int) 2 := ⟨m_1299, m_1298, m_6, ⟨by decide +kernel, by decide +kernel⟩, by decide +kernel⟩
theorem I_M_weight : gMI y_M_weight b_M_weight 4 (some .int) 1 := ⟨m_1323, m_1322, m_6, ⟨by decide +kernel, by decide +kernel⟩, by decide +kernel⟩
theorem I_M_coins : gMI y_M_coins b_M_coins 4 (some .int) 1 := ⟨m_1331, m_1330, m_6, ⟨by decide +kernel, by decide +kernel⟩, by decide +kernel⟩
theorem I_M_of : gMI y_M_of b_M_of 3 (some .int) 2 := ⟨m_1295, m_1293, m_6, ⟨by decide +kernel, by decide +kernel⟩, by decide +kernel⟩
theorem I_M_told : gMI y_M_told b_M_told 2 (some .int) 1 := ⟨m_1335, m_1333, m_6, ⟨by decide +kernel, by decide +kernel⟩, by decide +kernel⟩
theorem I_M_layLimits : gMI y_M_layLimits b_M_layLimits 5 none 1 := ⟨m_1359, m_1358, m_6, ⟨by decide +kernel, by decide +kernel⟩, by decide +kernel⟩
theorem I_M_nextHand : gMI y_M_nextHand b_M_nextHand 2 (some .boolean) 0 := ⟨m_1387, m_1386, m_6, ⟨by decide +kernel, by decide +kernel⟩, by decide +kernel⟩
theorem I_M_laySum : gMI y_M_laySum b_M_laySum 2 none 0 := ⟨m_1367, m_1366, m_6, ⟨by decide +kernel, by decide +kernel⟩, by decide +kernel⟩
theorem I_M_pays : gMI y_M_pays b_M_pays 7 (some .boolean) 2 := ⟨m_1363, m_1362, m_6, ⟨by decide +kernel, by decide +kernel⟩, by decide +kernel⟩
theorem I_M_weightBehind : gMI y_M_weightBehind b_M_weightBehind 4 (some .int) 1 := ⟨m_1379, m_1378, m_6, ⟨by decide +kernel, by decide +kernel⟩, by decide +kernel⟩
theorem I_M_coinsBehind : gMI y_M_coinsBehind b_M_coinsBehind 4 (some .int) 1 := ⟨m_1415, m_1414, m_6, ⟨by decide +kernel, by decide +kernel⟩, by decide +kernel⟩
theorem I_M_isBarred : gMI y_M_isBarred b_M_isBarred 2 (some .boolean) 1 := ⟨m_1371, m_1370, m_6, ⟨by decide +kernel, by decide +kernel⟩, by decide +kernel⟩
theorem I_M_badness : gMI y_M_badness b_M_badness 2 (some .int) 1 := ⟨m_1375, m_1374, m_6, ⟨by decide +kernel, by decide +kernel⟩, by decide +kernel⟩
theorem I_M_layBest : gMI y_M_layBest b_M_layBest 2 none 0 := ⟨m_1383, m_1382, m_6, ⟨by decide +kernel, by decide +kernel⟩, by decide +kernel⟩
theorem I_M_chooses : gMI y_M_chooses b_M_chooses 7 (some .boolean) 2 := ⟨m_1355, m_1354, m_6, ⟨by decide +kernel, by decide +kernel⟩, by decide +kernel⟩
theorem I_M_coinsOf : gMI y_M_coinsOf b_M_coinsOf 3 (some .int) 0 := ⟨m_1391, m_1390, m_6, ⟨by decide +kernel, by decide +kernel⟩, by decide +kernel⟩
theorem I_M_goes : gMI y_M_goes b_M_goes 4 (some .boolean) 2 := ⟨m_1351, m_1350, m_6, ⟨by decide +kernel, by decide +kernel⟩, by decide +kernel⟩
theorem I_M_pay : gMI y_M_pay b_M_pay 3 (some .int) 2 := ⟨m_1343, m_1341, m_6, ⟨by decide +kernel, by decide +kernel⟩, by decide +kernel⟩
theorem I_M_save : gMI y_M_save b_M_save 2 none 0 := ⟨m_1403, m_1402, m_6, ⟨by decide +kernel, by decide +kernel⟩, by decide +kernel⟩
theorem I_M_putBack : gMI y_M_putBack b_M_putBack 2 none 0 := ⟨m_1407, m_1406, m_6, ⟨by decide +kernel, by decide +kernel⟩, by decide +kernel⟩
theorem I_M_could : gMI y_M_could b_M_could 4 (some .boolean) 2 := ⟨m_1399, m_1398, m_6, ⟨by decide +kernel, by decide +kernel⟩, by decide +kernel⟩
theorem I_M_would : gMI y_M_would b_M_would 4 (some .int) 3 := ⟨m_1395, m_1393, m_6, ⟨by decide +kernel, by decide +kernel⟩, by decide +kernel⟩
theorem I_M_least : gMI y_M_least b_M_least 7 (some .int) 3 := ⟨m_1411, m_1409, m_6, ⟨by decide +kernel, by decide +kernel⟩, by decide +kernel⟩
theorem I_M_exactly : gMI y_M_exactly b_M_exactly 5 (some .int) 1 := ⟨m_1419, m_1417, m_6, ⟨by decide +kernel, by decide +kernel⟩, by decide +kernel⟩
theorem I_M_price : gMI y_M_price b_M_price 2 (some .int) 1 := ⟨m_1423, m_1421, m_6, ⟨by decide +kernel, by decide +kernel⟩, by decide +kernel⟩
theorem I_M_goesRow : gMI y_M_goesRow b_M_goesRow 4 (some .int) 1 := ⟨m_1431, m_1430, m_6, ⟨by decide +kernel, by decide +kernel⟩, by decide +kernel⟩
theorem I_M_behind : gMI y_M_behind b_M_behind 4 (some .int) 2 := ⟨m_1427, m_1425, m_6, ⟨by decide +kernel, by decide +kernel⟩, by decide +kernel⟩
theorem I_M_who : gMI y_M_who b_M_who 4 (some .int) 0 := ⟨m_1435, m_1433, m_6, ⟨by decide +kernel, by decide +kernel⟩, by decide +kernel⟩
theorem I_M_next : gMI y_M_next b_M_next 5 (some .int) 1 := ⟨m_1439, m_1437, m_6, ⟨by decide +kernel, by decide +kernel⟩, by decide +kernel⟩
theorem I_M_shortOf : gMI y_M_shortOf b_M_shortOf 4 (some .int) 1 := ⟨m_1443, m_1441, m_6, ⟨by decide +kernel, by decide +kernel⟩, by decide +kernel⟩
theorem I_M_more : gMI y_M_more b_M_more 8 (some .int) 3 := ⟨m_1447, m_1445, m_6, ⟨by decide +kernel, by decide +kernel⟩, by decide +kernel⟩
theorem I_M_heaviest : gMI y_M_heaviest b_M_heaviest 7 (some .int) 2 := ⟨m_1453, m_1451, m_6, ⟨by decide +kernel, by decide +kernel⟩, by decide +kernel⟩
theorem I_M_see : gMI y_M_see b_M_see 3 (some .int) 2 := ⟨m_1457, m_1455, m_6, ⟨by decide +kernel, by decide +kernel⟩, by decide +kernel⟩
theorem I_M_fits : gMI y_M_fits b_M_fits 5 (some .int) 0 := ⟨m_1461, m_1459, m_6, ⟨by decide +kernel, by decide +kernel⟩, by decide +kernel⟩
theorem I_M_divisor : gMI y_M_divisor b_M_divisor 6 (some .int) 2 := ⟨m_1474, m_1473, m_6, ⟨by decide +kernel, by decide +kernel⟩, by decide +kernel⟩
theorem I_M_lowest : gMI y_M_lowest b_M_lowest 5 (some .long) 3 := ⟨m_1470, m_1469, m_6, ⟨by decide +kernel, by decide +kernel⟩, by decide +kernel⟩
theorem I_M_odds : gMI y_M_odds b_M_odds 5 (some .long) 2 := ⟨m_1465, m_1463, m_6, ⟨by decide +kernel, by decide +kernel⟩, by decide +kernel⟩
theorem I_M_mean : gMI y_M_mean b_M_mean 6 (some .long) 2 := ⟨m_1478, m_1476, m_6, ⟨by decide +kernel, by decide +kernel⟩, by decide +kernel⟩
theorem I_M_book : gMI y_M_book b_M_book 3 (some .int) 2 := ⟨m_1482, m_1480, m_6, ⟨by decide +kernel, by decide +kernel⟩, by decide +kernel⟩
theorem I_M_looked : gMI y_M_looked b_M_looked 3 (some .int) 0 := ⟨m_1486, m_1484, m_6, ⟨by decide +kernel, by decide +kernel⟩, by decide +kernel⟩
theorem I_M_judge : gMI y_M_judge b_M_judge 4 (some .int) 2 := ⟨m_1490, m_1488, m_6, ⟨by decide +kernel, by decide +kernel⟩, by decide +kernel⟩
theorem I_M_image : gMI y_M_image b_M_image 2 (some .int) 0 := ⟨m_1498, m_1496, m_6, ⟨by decide +kernel, by decide +kernel⟩, by decide +kernel⟩
theorem I_M_undo : gMI y_M_undo b_M_undo 2 (some .int) 0 := ⟨m_1502, m_1500, m_6, ⟨by decide +kernel, by decide +kernel⟩, by decide +kernel⟩
theorem I_M_body : gMI y_M_body b_M_body 2 none 1 := ⟨m_1514, m_1513, m_6, ⟨by decide +kernel, by decide +kernel⟩, by decide +kernel⟩
theorem I_M_payerCounts : gMI y_M_payerCounts b_M_payerCounts 3 (some .int) 2 := ⟨m_1518, m_1517, m_6, ⟨by decide +kernel, by decide +kernel⟩, by decide +kernel⟩
theorem I_M_countsAct : gMI y_M_countsAct b_M_countsAct 3 (some .int) 2 := ⟨m_1510, m_1509, m_6, ⟨by decide +kernel, by decide +kernel⟩, by decide +kernel⟩
theorem I_M_payerHands : gMI y_M_payerHands b_M_payerHands 3 (some .int) 2 := ⟨m_1530, m_1529, m_6, ⟨by decide +kernel, by decide +kernel⟩, by decide +kernel⟩
theorem I_M_exactHands : gMI y_M_exactHands b_M_exactHands 3 (some .int) 2 := ⟨m_1526, m_1525, m_6, ⟨by decide +kernel, by decide +kernel⟩, by decide +kernel⟩
theorem I_M_handsAct : gMI y_M_handsAct b_M_handsAct 4 (some .int) 2 := ⟨m_1522, m_1521, m_6, ⟨by decide +kernel, by decide +kernel⟩, by decide +kernel⟩
theorem I_M_payerTells : gMI y_M_payerTells b_M_payerTells 3 (some .int) 2 := ⟨m_1538, m_1537, m_6, ⟨by decide +kernel, by decide +kernel⟩, by decide +kernel⟩
theorem I_M_tellsAct : gMI y_M_tellsAct b_M_tellsAct 4 (some .int) 2 := ⟨m_1534, m_1533, m_6, ⟨by decide +kernel, by decide +kernel⟩, by decide +kernel⟩
theorem I_M_act : gMI y_M_act b_M_act 4 (some .int) 3 := ⟨m_1506, m_1504, m_6, ⟨by decide +kernel, by decide +kernel⟩, by decide +kernel⟩
theorem I_M_trace : gMI y_M_trace b_M_trace 2 (some .int) 1 := ⟨m_1542, m_1540, m_6, ⟨by decide +kernel, by decide +kernel⟩, by decide +kernel⟩
theorem I_M_taken : gMI y_M_taken b_M_taken 4 (some .int) 2 := ⟨m_1546, m_1544, m_6, ⟨by decide +kernel, by decide +kernel⟩, by decide +kernel⟩
theorem I_M_count : gMI y_M_count b_M_count 2 (some .int) 1 := ⟨m_1550, m_1548, m_6, ⟨by decide +kernel, by decide +kernel⟩, by decide +kernel⟩
theorem I_M_isTape : gMI y_M_isTape b_M_isTape 2 (some .boolean) 1 := ⟨m_1494, m_1493, m_6, ⟨by decide +kernel, by decide +kernel⟩, by decide +kernel⟩
theorem I_M_tape : gMI y_M_tape b_M_tape 5 (some .int) 3 := ⟨m_1554, m_1552, m_6, ⟨by decide +kernel, by decide +kernel⟩, by decide +kernel⟩
theorem I_M_narrow : gMI y_M_narrow b_M_narrow 4 (some .long) 2 := ⟨m_1562, m_1561, m_6, ⟨by decide +kernel, by decide +kernel⟩, by decide +kernel⟩
theorem I_M_item : gMI y_M_item b_M_item 5 (some .int) 3 := ⟨m_1558, m_1556, m_6, ⟨by decide +kernel, by decide +kernel⟩, by decide +kernel⟩
theorem I_M_read : gMI y_M_read b_M_read 3 (some .long) 2 := ⟨m_1566, m_1564, m_6, ⟨by decide +kernel, by decide +kernel⟩, by decide +kernel⟩
theorem I_M_shift : gMI y_M_shift b_M_shift 7 (some .int) 5 := ⟨m_1570, m_1568, m_6, ⟨by decide +kernel, by decide +kernel⟩, by decide +kernel⟩
theorem I_Ma_max : gMS y_Ma_max b_Ma_max 2 (some .int) 2 := ⟨m_551, m_550, m_18, ⟨by decide +kernel, by decide +kernel⟩, by decide +kernel⟩
theorem I_Ma_min : gMS y_Ma_min b_Ma_min 2 (some .int) 2 := ⟨m_554, m_553, m_18, ⟨by decide +kernel, by decide +kernel⟩, by decide +kernel⟩
theorem I_Lo_bitCount : gMS y_Lo_bitCount b_Lo_bitCount 2 (some .int) 1 := ⟨m_750, m_749, m_21, ⟨by decide +kernel, by decide +kernel⟩, by decide +kernel⟩
theorem I_S_length : gMI y_S_length b_S_length 1 (some .int) 0 := ⟨m_456, m_454, m_14, ⟨by decide +kernel, by decide +kernel⟩, by decide +kernel⟩
theorem I_S_coder : gMI y_S_coder b_S_coder 1 (some .byte) 0 := ⟨m_460, m_458, m_14, ⟨by decide +kernel, by decide +kernel⟩, by decide +kernel⟩
theorem I_S_isLatin1 : gMI y_S_isLatin1 b_S_isLatin1 1 (some .boolean) 0 := ⟨m_470, m_468, m_14, ⟨by decide +kernel, by decide +kernel⟩, by decide +kernel⟩
theorem I_S_charAt : gMI y_S_charAt b_S_charAt 2 (some .char) 1 := ⟨m_466, m_464, m_14, ⟨by decide +kernel, by decide +kernel⟩, by decide +kernel⟩
theorem I_S_checkIndex : gMS y_S_checkIndex b_S_checkIndex 2 none 2 := ⟨m_476, m_475, m_14, ⟨by decide +kernel, by decide +kernel⟩, by decide +kernel⟩
theorem I_S_indexOfi : gMI y_S_indexOfi b_S_indexOfi 2 (some .int) 1 := ⟨m_537, m_535, m_14, ⟨by decide +kernel, by decide +kernel⟩, by decide +kernel⟩
theorem I_S_indexOfii : gMI y_S_indexOfii b_S_indexOfii 3 (some .int) 2 := ⟨m_541, m_539, m_14, ⟨by decide +kernel, by decide +kernel⟩, by decide +kernel⟩
theorem I_L1_charAt : gMS y_L1_charAt b_L1_charAt 2 (some .char) 2 := ⟨m_473, m_472, m_15, ⟨by decide +kernel, by decide +kernel⟩, by decide +kernel⟩
theorem I_L1_canEncode : gMS y_L1_canEncode b_L1_canEncode 1 (some .boolean) 1 := ⟨m_548, m_547, m_15, ⟨by decide +kernel, by decide +kernel⟩, by decide +kernel⟩
theorem I_L1_indexOf : gMS y_L1_indexOf b_L1_indexOf 4 (some .int) 4 := ⟨m_545, m_544, m_15, ⟨by decide +kernel, by decide +kernel⟩, by decide +kernel⟩
theorem I_L1_indexOfChar : gMS y_L1_indexOfChar b_L1_indexOfChar 6 (some .int) 4 := ⟨m_557, m_556, m_15, ⟨by decide +kernel, by decide +kernel⟩, by decide +kernel⟩
theorem I_Pc_checkIndex : gMS y_Pc_checkIndex b_Pc_checkIndex 3 (some .int) 3 := ⟨m_481, m_480, m_16, ⟨by decide +kernel, by decide +kernel⟩, by decide +kernel⟩
