/-! WORDS of the reference: begin; entries are right -/
theorem cn_bL {p : Bool} {P : Int64 → Prop} : cnd p (P (lN 1)) (P (lN 0)) = P (lN (if p then 1 else 0)) := by
  cases p
  · rw [cn_f]; rfl
  · rw [cn_t]; rfl
theorem cnd_k {c : XC} {a : ST} {g : GE} {J Q : LE → FH → Bd → Prop} {R : Option Value → FH → Prop} {e : LE} {h : FH} {b : Bd} (H : ∀ A : LE → FH → Bd → Prop, (∀ e h b, A e h b = a.2 g J R e h b) → c.2 g (fun v h' b' => cnd v (A e h' b') (Q e h' b')) e h b) : c.2 g (fun v h' b' => cnd v (a.2 g J R e h' b') (Q e h' b')) e h b := H _ (fun _ _ _ => rfl)
def F00 (f1 f2 : Bool) : Fr := fun x => (x = 0 ∧ f1 = true) ∨ (x = 256 ∧ f2 = true)
def L1 (F : Fr) : Lay := (1, fun _ => F, fun _ => [], fun _ => 1)
theorem R_mbegin {g : GE} {Q : Option Value → FH → Bd → Prop} {h : FH} {b : Bd} {m : Nat} {I : Nat → Int32} {S : Nat → Str} {w : Nat → Nat} {pp : Nat → Nat → Nat} {cap : Nat → Nat} {Lf : Nat → Lay} {fr0 : Nat → Int64} {f1 f2 : Bool} (hg : 5 ≤ g.1) (hM : MB m I S w h) (hL : LW m pp cap Lf h) (hfr : h.2 (m + 43) = some (aL 8 fr0)) (hq : ∀ h' fr' pp', LW m pp' cap (va_up Lf 0 (L1 (F00 f1 f2))) h' → FrWd m h h' → h'.2 (m + 43) = some (aL 8 fr') → Q none h' b) : CallQ 207 g [.ref m, .int (b2i f1), .int (b2i f2)] Q h b := by
  refine CQ_h (d := 4) _ (fun h' => ∃ fr' pp', LW m pp' cap (va_up Lf 0 (L1 (F00 f1 f2))) h' ∧ FrWd m h h' ∧ h'.2 (m + 43) = some (aL 8 fr')) (fun _ => C_mM_begin (Nat.le_of_ble_eq_true rfl)) (by omega) (fun Rr hR g' hg' => ?_) (fun h' ⟨fr', pp', q1, q2, q3⟩ => hq h' fr' pp' q1 q2 q3)
  clear hq
  rw [show eent 4 [.ref m, .int (b2i f1), .int (b2i f2)] = [some (.ref m), some (.int (b2i f1)), some (.int (b2i f2)), none] from rfl]
  obtain ⟨h0, -⟩ := id hM
  have htw := hL.1
  have htw : h.2 (m + 34) = _ := htw
  obtain ⟨⟨FSa, WSa, CSa, ⟨la0, -⟩, -⟩, -⟩ := hL.2.1 0 (by omega)
  have la0 : h.2 (m + 35) = some (.inr (8, [.ref (pp 0 0), .ref (pp 0 1), .ref (pp 0 2), .int (nI (lyN (Lf 0)))])) := la0
  have y0 : va_up (va_up (fun _ => none) 0 (some (m + 35))) 1 (some (m + 39)) 0 = some (m + 35) := rfl
  have y1 : va_up (va_up (fun _ => none) 0 (some (m + 35))) 1 (some (m + 39)) 1 = some (m + 39) := rfl
  unfold M_mM_begin
  refine seq_k fun K1 hK1 => ?_
  simp (disch := first | omega | rfl) only [x_seq, x_ist, x_lst, x_ast, x_inc, x_ic, x_lc, x_rn, x_il, x_ll, x_rl, x_add, x_sub, x_mul, x_and, x_or, x_xor, x_shl, x_shr, x_ushr, x_div, x_rem, x_ladd, x_lmul, x_land, x_lor, x_lxor, x_lshl, x_lshr, x_lushr, x_i2l, x_l2i, x_max, x_ifld, x_lfld, x_rfld, x_iald, x_zald, x_lald, x_rald, x_len, x_wt, x_scr, x_slen, x_icmp, x_if, x_cb, x_lcmp, x_nul, x_cnot, x_cand, x_cor, x_cond, x_an, x_ac, x_cV, x_cS, x_scV, x_scS, x_putI, x_putZ, x_putL, x_putR, x_opf, x_iast, x_zast, x_last, x_aast, x_opaI, x_opaL, x_sif, x_ite, x_retI, x_retZ, x_retL, x_retR, x_ret, x_pop, x_sup, lc_i, lc_r, lc_0, lc_n, lc_l, rf_s, rf_n, lI_c, lL_c, lR_c, lR_n, gO_s, gI_c, gL_c, gR_c, gI2_c, gL2_c, gR2_c, gR2_v, gR2_n, rdI_c, rdZ_c, rdL_c, rdR_c, alN_c, rdW_c, rdS_c, isK_c, vI_ex, vL_ex, vR_ex, vR_exs, vR_exn, pt_c, wrI_c, wrZ_c, wrL_c, wrR_c, opI_c, opL_c, op2I_c, op2L_c, hs_eq, hs_ne, hs_1, List.getElem?_cons_zero, List.getElem?_cons_succ, List.set_cons_zero, List.set_cons_succ, List.length_cons, List.length_nil, Nat.reduceAdd, Nat.reduceLT, lg0, lg1, lg2, lg3, lg4, lg5, lg6, lg7, lg8, lg9, lg10, lg11, lg12, lg13, lg14, lg15, lg16, lg17, lg18, lg19, lg20, ls0, ls1, ls2, ls3, ls4, ls5, ls6, ls7, ls8, ls9, ls10, ls11, ls12, ls13, ls14, ls15, ls16, ls17, ls18, ls19, ls20, lt0, lt1, lt2, lt3, lt4, lt5, lt6, lt7, lt8, lt9, lt10, lt11, lt12, lt13, lt14, lt15, lt16, lt17, lt18, lt19, lt20, eq_self, mc_8, mc_9, mc_11, mc_12, mc_13, mc_14, mc_15, mc_17, mc_18, mc_20, mc_21, mc_22, mc_23, mc_24, mc_25, mc_26, mc_27, mc_28, mc_29, mc_30, mc_31, mc_32, mc_33, mc_34, mc_35, mc_36, mc_37, mc_38, mc_39, mc_40, mc_41, mc_42, mc_43, mc_44, mc_45, mc_46, mc_47, mc_48, mc_49, mc_50, mc_51, mc_52, mc_53, mc_54, mc_55, mc_57, mc_58, mc_59, mc_60, mc_61, mc_62, mc_63, mc_65, mc_68, mc_69, mc_70, mc_71, mc_72, mc_73, mc_75, mc_76, mc_77, mc_78, mc_80, mc_81, mc_82, mc_83, mc_84, mc_85, mc_86, mc_87, mc_88, mc_89, mc_90, mc_91, mc_93, mc_94, mc_95, mc_96, mc_97, mc_98, mc_99, mc_100, mc_101, mc_103, mc_104, mc_105, mc_106, mc_107, mc_108, mc_109, mc_110, mc_111, mc_112, mc_113, mc_114, mc_115, mc_116, mc_117, mc_118, mc_120, mc_121, mc_122, mc_123, mc_124, mc_125, mc_126, mc_127, mc_128, mc_131, mc_132, mc_133, mc_134, mc_135, mc_136, mc_137, mc_138, mc_139, mc_140, mc_141, mc_142, mc_143, mc_147, mc_151, mc_152, mc_153, mc_155, mc_156, mc_157, mc_158, mc_159, mc_160, mc_161, mc_162, mc_163, mc_164, mc_165, mc_166, mc_167, mc_168, mc_169, mc_170, mc_171, mc_172, mc_173, mc_174, mc_175, mc_176, mc_177, mc_178, mc_179, mc_180, mc_181, mc_182, mc_183, mc_184, mc_185, mc_186, mc_187, mc_188, mc_189, mc_190, mc_191, mc_194, mc_195, mc_196, mc_197, mc_198, mc_199, mc_200, mc_202, mc_203, mc_204, mc_205, mc_206, mc_207, mc_208, mc_209, mc_210, mc_211, mc_212, mc_213, mc_214, mc_215, mc_216, mc_217, mc_218, mc_219, mc_220, mc_221, mc_222, mc_223, mc_224, mc_225, mc_226, mc_227, mc_228, mc_229, mc_230, mc_231, mc_232, mc_233, mc_235, mc_236, b2_01, b2_ne, nI01_0, nI01_1, iq_lt, iq_le, iq_ge, iq_gt, iq_eq, iq_ne, iq_eq0, iq_ne0, iq_lt0, iq_ge0, iq_gt0, iq_le0, d_10, d_00, decide_true, decide_false, Bool.not_true, Bool.not_false, n_bit, n_shr, n_shl, nI_add, pk_sub, pk_mul, fa_and, fa_or, fb_xorI, Nat.one_mul, true_and, and_true, oI_0, oI_1, oI_2, oI_3, oI_4, oI_5, oI_6, oI_8, oI_9, oI_12, oI_16, oI_18, oI_32, oI_40, oI_41, oI_43, oI_48, oI_54, oI_55, oI_59, oI_63, oI_64, oI_70, oI_72, oI_97, oI_102, oI_103, oI_124, oI_126, oI_256, oI_512, oI_513, oI_4096, oI_13122, oI_1000000000, oI_1431655765, oI_252645135, oI_858993459, rdR_o, h0, htw, y0, la0]
  refine R_LclearW (y := 0) (by omega) hL (by omega) (fun hA hLA hfA => ⟨rfl, ?_⟩)
  rw [hK1]; clear hK1 K1
  have hMA := hM.frame hfA (by omega)
  have hfrA : hA.2 (m + 43) = some (aL 8 fr0) := (hfA.2 _ (by omega)).trans hfr
  have hwA : FrWd m h hA := FrWd.of hfA (by omega)
  clear la0 hM hL hfr h0 htw
  refine seq_k fun K1 hK1 => ?_
  simp (disch := first | omega | rfl) only [x_seq, x_ist, x_lst, x_ast, x_inc, x_ic, x_lc, x_rn, x_il, x_ll, x_rl, x_add, x_sub, x_mul, x_and, x_or, x_xor, x_shl, x_shr, x_ushr, x_div, x_rem, x_ladd, x_lmul, x_land, x_lor, x_lxor, x_lshl, x_lshr, x_lushr, x_i2l, x_l2i, x_max, x_ifld, x_lfld, x_rfld, x_iald, x_zald, x_lald, x_rald, x_len, x_wt, x_scr, x_slen, x_icmp, x_if, x_cb, x_lcmp, x_nul, x_cnot, x_cand, x_cor, x_cond, x_an, x_ac, x_cV, x_cS, x_scV, x_scS, x_putI, x_putZ, x_putL, x_putR, x_opf, x_iast, x_zast, x_last, x_aast, x_opaI, x_opaL, x_sif, x_ite, x_retI, x_retZ, x_retL, x_retR, x_ret, x_pop, x_sup, lc_i, lc_r, lc_0, lc_n, lc_l, rf_s, rf_n, lI_c, lL_c, lR_c, lR_n, gO_s, gI_c, gL_c, gR_c, gI2_c, gL2_c, gR2_c, gR2_v, gR2_n, rdI_c, rdZ_c, rdL_c, rdR_c, alN_c, rdW_c, rdS_c, isK_c, vI_ex, vL_ex, vR_ex, vR_exs, vR_exn, pt_c, wrI_c, wrZ_c, wrL_c, wrR_c, opI_c, opL_c, op2I_c, op2L_c, hs_eq, hs_ne, hs_1, List.getElem?_cons_zero, List.getElem?_cons_succ, List.set_cons_zero, List.set_cons_succ, List.length_cons, List.length_nil, Nat.reduceAdd, Nat.reduceLT, lg0, lg1, lg2, lg3, lg4, lg5, lg6, lg7, lg8, lg9, lg10, lg11, lg12, lg13, lg14, lg15, lg16, lg17, lg18, lg19, lg20, ls0, ls1, ls2, ls3, ls4, ls5, ls6, ls7, ls8, ls9, ls10, ls11, ls12, ls13, ls14, ls15, ls16, ls17, ls18, ls19, ls20, lt0, lt1, lt2, lt3, lt4, lt5, lt6, lt7, lt8, lt9, lt10, lt11, lt12, lt13, lt14, lt15, lt16, lt17, lt18, lt19, lt20, eq_self, mc_8, mc_9, mc_11, mc_12, mc_13, mc_14, mc_15, mc_17, mc_18, mc_20, mc_21, mc_22, mc_23, mc_24, mc_25, mc_26, mc_27, mc_28, mc_29, mc_30, mc_31, mc_32, mc_33, mc_34, mc_35, mc_36, mc_37, mc_38, mc_39, mc_40, mc_41, mc_42, mc_43, mc_44, mc_45, mc_46, mc_47, mc_48, mc_49, mc_50, mc_51, mc_52, mc_53, mc_54, mc_55, mc_57, mc_58, mc_59, mc_60, mc_61, mc_62, mc_63, mc_65, mc_68, mc_69, mc_70, mc_71, mc_72, mc_73, mc_75, mc_76, mc_77, mc_78, mc_80, mc_81, mc_82, mc_83, mc_84, mc_85, mc_86, mc_87, mc_88, mc_89, mc_90, mc_91, mc_93, mc_94, mc_95, mc_96, mc_97, mc_98, mc_99, mc_100, mc_101, mc_103, mc_104, mc_105, mc_106, mc_107, mc_108, mc_109, mc_110, mc_111, mc_112, mc_113, mc_114, mc_115, mc_116, mc_117, mc_118, mc_120, mc_121, mc_122, mc_123, mc_124, mc_125, mc_126, mc_127, mc_128, mc_131, mc_132, mc_133, mc_134, mc_135, mc_136, mc_137, mc_138, mc_139, mc_140, mc_141, mc_142, mc_143, mc_147, mc_151, mc_152, mc_153, mc_155, mc_156, mc_157, mc_158, mc_159, mc_160, mc_161, mc_162, mc_163, mc_164, mc_165, mc_166, mc_167, mc_168, mc_169, mc_170, mc_171, mc_172, mc_173, mc_174, mc_175, mc_176, mc_177, mc_178, mc_179, mc_180, mc_181, mc_182, mc_183, mc_184, mc_185, mc_186, mc_187, mc_188, mc_189, mc_190, mc_191, mc_194, mc_195, mc_196, mc_197, mc_198, mc_199, mc_200, mc_202, mc_203, mc_204, mc_205, mc_206, mc_207, mc_208, mc_209, mc_210, mc_211, mc_212, mc_213, mc_214, mc_215, mc_216, mc_217, mc_218, mc_219, mc_220, mc_221, mc_222, mc_223, mc_224, mc_225, mc_226, mc_227, mc_228, mc_229, mc_230, mc_231, mc_232, mc_233, mc_235, mc_236, b2_01, b2_ne, nI01_0, nI01_1, iq_lt, iq_le, iq_ge, iq_gt, iq_eq, iq_ne, iq_eq0, iq_ne0, iq_lt0, iq_ge0, iq_gt0, iq_le0, d_10, d_00, decide_true, decide_false, Bool.not_true, Bool.not_false, n_bit, n_shr, n_shl, nI_add, pk_sub, pk_mul, fa_and, fa_or, fb_xorI, Nat.one_mul, true_and, and_true, oI_0, oI_1, oI_2, oI_3, oI_4, oI_5, oI_6, oI_8, oI_9, oI_12, oI_16, oI_18, oI_32, oI_40, oI_41, oI_43, oI_48, oI_54, oI_55, oI_59, oI_63, oI_64, oI_70, oI_72, oI_97, oI_102, oI_103, oI_124, oI_126, oI_256, oI_512, oI_513, oI_4096, oI_13122, oI_1000000000, oI_1431655765, oI_252645135, oI_858993459]
  refine whl_i 8 (fun k E h' b' => k ≤ 8 ∧ b' = (0, 0) ∧ E = [some (.ref m), some (.int (b2i f1)), some (.int (b2i f2)), some (.int (nI k))] ∧ FrO (m + 43) 1 hA h' ∧ ∃ fr', h'.2 (m + 43) = some (aL 8 fr') ∧ ∀ j, j < k → fr' j = lN 0) ⟨Nat.zero_le _, rfl, rfl, FrO.refl, fr0, hfrA, fun j hj => absurd hj (by omega)⟩ (fun k E h' b' hI J hJ => ?_)
  obtain ⟨hk, rfl, rfl, hf, fr', hfr', hz⟩ := hI
  have h0' := (hMA.frame hf (by omega)).1
  simp (disch := first | omega | rfl) only [x_seq, x_ist, x_lst, x_ast, x_inc, x_ic, x_lc, x_rn, x_il, x_ll, x_rl, x_add, x_sub, x_mul, x_and, x_or, x_xor, x_shl, x_shr, x_ushr, x_div, x_rem, x_ladd, x_lmul, x_land, x_lor, x_lxor, x_lshl, x_lshr, x_lushr, x_i2l, x_l2i, x_max, x_ifld, x_lfld, x_rfld, x_iald, x_zald, x_lald, x_rald, x_len, x_wt, x_scr, x_slen, x_icmp, x_if, x_cb, x_lcmp, x_nul, x_cnot, x_cand, x_cor, x_cond, x_an, x_ac, x_cV, x_cS, x_scV, x_scS, x_putI, x_putZ, x_putL, x_putR, x_opf, x_iast, x_zast, x_last, x_aast, x_opaI, x_opaL, x_sif, x_ite, x_retI, x_retZ, x_retL, x_retR, x_ret, x_pop, x_sup, lc_i, lc_r, lc_0, lc_n, lc_l, rf_s, rf_n, lI_c, lL_c, lR_c, lR_n, gO_s, gI_c, gL_c, gR_c, gI2_c, gL2_c, gR2_c, gR2_v, gR2_n, rdI_c, rdZ_c, rdL_c, rdR_c, alN_c, rdW_c, rdS_c, isK_c, vI_ex, vL_ex, vR_ex, vR_exs, vR_exn, pt_c, wrI_c, wrZ_c, wrL_c, wrR_c, opI_c, opL_c, op2I_c, op2L_c, hs_eq, hs_ne, hs_1, List.getElem?_cons_zero, List.getElem?_cons_succ, List.set_cons_zero, List.set_cons_succ, List.length_cons, List.length_nil, Nat.reduceAdd, Nat.reduceLT, lg0, lg1, lg2, lg3, lg4, lg5, lg6, lg7, lg8, lg9, lg10, lg11, lg12, lg13, lg14, lg15, lg16, lg17, lg18, lg19, lg20, ls0, ls1, ls2, ls3, ls4, ls5, ls6, ls7, ls8, ls9, ls10, ls11, ls12, ls13, ls14, ls15, ls16, ls17, ls18, ls19, ls20, lt0, lt1, lt2, lt3, lt4, lt5, lt6, lt7, lt8, lt9, lt10, lt11, lt12, lt13, lt14, lt15, lt16, lt17, lt18, lt19, lt20, eq_self, mc_8, mc_9, mc_11, mc_12, mc_13, mc_14, mc_15, mc_17, mc_18, mc_20, mc_21, mc_22, mc_23, mc_24, mc_25, mc_26, mc_27, mc_28, mc_29, mc_30, mc_31, mc_32, mc_33, mc_34, mc_35, mc_36, mc_37, mc_38, mc_39, mc_40, mc_41, mc_42, mc_43, mc_44, mc_45, mc_46, mc_47, mc_48, mc_49, mc_50, mc_51, mc_52, mc_53, mc_54, mc_55, mc_57, mc_58, mc_59, mc_60, mc_61, mc_62, mc_63, mc_65, mc_68, mc_69, mc_70, mc_71, mc_72, mc_73, mc_75, mc_76, mc_77, mc_78, mc_80, mc_81, mc_82, mc_83, mc_84, mc_85, mc_86, mc_87, mc_88, mc_89, mc_90, mc_91, mc_93, mc_94, mc_95, mc_96, mc_97, mc_98, mc_99, mc_100, mc_101, mc_103, mc_104, mc_105, mc_106, mc_107, mc_108, mc_109, mc_110, mc_111, mc_112, mc_113, mc_114, mc_115, mc_116, mc_117, mc_118, mc_120, mc_121, mc_122, mc_123, mc_124, mc_125, mc_126, mc_127, mc_128, mc_131, mc_132, mc_133, mc_134, mc_135, mc_136, mc_137, mc_138, mc_139, mc_140, mc_141, mc_142, mc_143, mc_147, mc_151, mc_152, mc_153, mc_155, mc_156, mc_157, mc_158, mc_159, mc_160, mc_161, mc_162, mc_163, mc_164, mc_165, mc_166, mc_167, mc_168, mc_169, mc_170, mc_171, mc_172, mc_173, mc_174, mc_175, mc_176, mc_177, mc_178, mc_179, mc_180, mc_181, mc_182, mc_183, mc_184, mc_185, mc_186, mc_187, mc_188, mc_189, mc_190, mc_191, mc_194, mc_195, mc_196, mc_197, mc_198, mc_199, mc_200, mc_202, mc_203, mc_204, mc_205, mc_206, mc_207, mc_208, mc_209, mc_210, mc_211, mc_212, mc_213, mc_214, mc_215, mc_216, mc_217, mc_218, mc_219, mc_220, mc_221, mc_222, mc_223, mc_224, mc_225, mc_226, mc_227, mc_228, mc_229, mc_230, mc_231, mc_232, mc_233, mc_235, mc_236, b2_01, b2_ne, nI01_0, nI01_1, iq_lt, iq_le, iq_ge, iq_gt, iq_eq, iq_ne, iq_eq0, iq_ne0, iq_lt0, iq_ge0, iq_gt0, iq_le0, d_10, d_00, decide_true, decide_false, Bool.not_true, Bool.not_false, n_bit, n_shr, n_shl, nI_add, pk_sub, pk_mul, fa_and, fa_or, fb_xorI, Nat.one_mul, true_and, and_true, oI_0, oI_1, oI_2, oI_3, oI_4, oI_5, oI_6, oI_8, oI_9, oI_12, oI_16, oI_18, oI_32, oI_40, oI_41, oI_43, oI_48, oI_54, oI_55, oI_59, oI_63, oI_64, oI_70, oI_72, oI_97, oI_102, oI_103, oI_124, oI_126, oI_256, oI_512, oI_513, oI_4096, oI_13122, oI_1000000000, oI_1431655765, oI_252645135, oI_858993459, cn_d]
  refine ⟨fun hk2 => ?_, fun hk2 => ?_⟩
  · simp (disch := first | omega | rfl) only [x_seq, x_ist, x_lst, x_ast, x_inc, x_ic, x_lc, x_rn, x_il, x_ll, x_rl, x_add, x_sub, x_mul, x_and, x_or, x_xor, x_shl, x_shr, x_ushr, x_div, x_rem, x_ladd, x_lmul, x_land, x_lor, x_lxor, x_lshl, x_lshr, x_lushr, x_i2l, x_l2i, x_max, x_ifld, x_lfld, x_rfld, x_iald, x_zald, x_lald, x_rald, x_len, x_wt, x_scr, x_slen, x_icmp, x_if, x_cb, x_lcmp, x_nul, x_cnot, x_cand, x_cor, x_cond, x_an, x_ac, x_cV, x_cS, x_scV, x_scS, x_putI, x_putZ, x_putL, x_putR, x_opf, x_iast, x_zast, x_last, x_aast, x_opaI, x_opaL, x_sif, x_ite, x_retI, x_retZ, x_retL, x_retR, x_ret, x_pop, x_sup, lc_i, lc_r, lc_0, lc_n, lc_l, rf_s, rf_n, lI_c, lL_c, lR_c, lR_n, gO_s, gI_c, gL_c, gR_c, gI2_c, gL2_c, gR2_c, gR2_v, gR2_n, rdI_c, rdZ_c, rdL_c, rdR_c, alN_c, rdW_c, rdS_c, isK_c, vI_ex, vL_ex, vR_ex, vR_exs, vR_exn, pt_c, wrI_c, wrZ_c, wrL_c, wrR_c, opI_c, opL_c, op2I_c, op2L_c, hs_eq, hs_ne, hs_1, List.getElem?_cons_zero, List.getElem?_cons_succ, List.set_cons_zero, List.set_cons_succ, List.length_cons, List.length_nil, Nat.reduceAdd, Nat.reduceLT, lg0, lg1, lg2, lg3, lg4, lg5, lg6, lg7, lg8, lg9, lg10, lg11, lg12, lg13, lg14, lg15, lg16, lg17, lg18, lg19, lg20, ls0, ls1, ls2, ls3, ls4, ls5, ls6, ls7, ls8, ls9, ls10, ls11, ls12, ls13, ls14, ls15, ls16, ls17, ls18, ls19, ls20, lt0, lt1, lt2, lt3, lt4, lt5, lt6, lt7, lt8, lt9, lt10, lt11, lt12, lt13, lt14, lt15, lt16, lt17, lt18, lt19, lt20, eq_self, mc_8, mc_9, mc_11, mc_12, mc_13, mc_14, mc_15, mc_17, mc_18, mc_20, mc_21, mc_22, mc_23, mc_24, mc_25, mc_26, mc_27, mc_28, mc_29, mc_30, mc_31, mc_32, mc_33, mc_34, mc_35, mc_36, mc_37, mc_38, mc_39, mc_40, mc_41, mc_42, mc_43, mc_44, mc_45, mc_46, mc_47, mc_48, mc_49, mc_50, mc_51, mc_52, mc_53, mc_54, mc_55, mc_57, mc_58, mc_59, mc_60, mc_61, mc_62, mc_63, mc_65, mc_68, mc_69, mc_70, mc_71, mc_72, mc_73, mc_75, mc_76, mc_77, mc_78, mc_80, mc_81, mc_82, mc_83, mc_84, mc_85, mc_86, mc_87, mc_88, mc_89, mc_90, mc_91, mc_93, mc_94, mc_95, mc_96, mc_97, mc_98, mc_99, mc_100, mc_101, mc_103, mc_104, mc_105, mc_106, mc_107, mc_108, mc_109, mc_110, mc_111, mc_112, mc_113, mc_114, mc_115, mc_116, mc_117, mc_118, mc_120, mc_121, mc_122, mc_123, mc_124, mc_125, mc_126, mc_127, mc_128, mc_131, mc_132, mc_133, mc_134, mc_135, mc_136, mc_137, mc_138, mc_139, mc_140, mc_141, mc_142, mc_143, mc_147, mc_151, mc_152, mc_153, mc_155, mc_156, mc_157, mc_158, mc_159, mc_160, mc_161, mc_162, mc_163, mc_164, mc_165, mc_166, mc_167, mc_168, mc_169, mc_170, mc_171, mc_172, mc_173, mc_174, mc_175, mc_176, mc_177, mc_178, mc_179, mc_180, mc_181, mc_182, mc_183, mc_184, mc_185, mc_186, mc_187, mc_188, mc_189, mc_190, mc_191, mc_194, mc_195, mc_196, mc_197, mc_198, mc_199, mc_200, mc_202, mc_203, mc_204, mc_205, mc_206, mc_207, mc_208, mc_209, mc_210, mc_211, mc_212, mc_213, mc_214, mc_215, mc_216, mc_217, mc_218, mc_219, mc_220, mc_221, mc_222, mc_223, mc_224, mc_225, mc_226, mc_227, mc_228, mc_229, mc_230, mc_231, mc_232, mc_233, mc_235, mc_236, b2_01, b2_ne, nI01_0, nI01_1, iq_lt, iq_le, iq_ge, iq_gt, iq_eq, iq_ne, iq_eq0, iq_ne0, iq_lt0, iq_ge0, iq_gt0, iq_le0, d_10, d_00, decide_true, decide_false, Bool.not_true, Bool.not_false, n_bit, n_shr, n_shl, nI_add, pk_sub, pk_mul, fa_and, fa_or, fb_xorI, Nat.one_mul, true_and, and_true, oI_0, oI_1, oI_2, oI_3, oI_4, oI_5, oI_6, oI_8, oI_9, oI_12, oI_16, oI_18, oI_32, oI_40, oI_41, oI_43, oI_48, oI_54, oI_55, oI_59, oI_63, oI_64, oI_70, oI_72, oI_97, oI_102, oI_103, oI_124, oI_126, oI_256, oI_512, oI_513, oI_4096, oI_13122, oI_1000000000, oI_1431655765, oI_252645135, oI_858993459, h0', hfr', oL_0]
    refine hJ hk2 _ _ _ ⟨hk2, rfl, rfl, FrO.trans hf (by exact ⟨rfl, fun x hx => by simp (disch := omega) only [hs_ne]⟩), _, hs_eq, fun j hj => ?_⟩
    by_cases e : j = k
    · subst e; exact if_pos rfl
    · exact (if_neg e).trans (hz j (by omega))
  have hk8 : k = 8 := by omega
  subst hk8
  rw [hK1]; clear hK1 K1 hJ J
  refine seq_k fun K1 hK1 => ?_
  simp (disch := first | omega | rfl) only [x_seq, x_ist, x_lst, x_ast, x_inc, x_ic, x_lc, x_rn, x_il, x_ll, x_rl, x_add, x_sub, x_mul, x_and, x_or, x_xor, x_shl, x_shr, x_ushr, x_div, x_rem, x_ladd, x_lmul, x_land, x_lor, x_lxor, x_lshl, x_lshr, x_lushr, x_i2l, x_l2i, x_max, x_ifld, x_lfld, x_rfld, x_iald, x_zald, x_lald, x_rald, x_len, x_wt, x_scr, x_slen, x_icmp, x_if, x_cb, x_lcmp, x_nul, x_cnot, x_cand, x_cor, x_cond, x_an, x_ac, x_cV, x_cS, x_scV, x_scS, x_putI, x_putZ, x_putL, x_putR, x_opf, x_iast, x_zast, x_last, x_aast, x_opaI, x_opaL, x_sif, x_ite, x_retI, x_retZ, x_retL, x_retR, x_ret, x_pop, x_sup, lc_i, lc_r, lc_0, lc_n, lc_l, rf_s, rf_n, lI_c, lL_c, lR_c, lR_n, gO_s, gI_c, gL_c, gR_c, gI2_c, gL2_c, gR2_c, gR2_v, gR2_n, rdI_c, rdZ_c, rdL_c, rdR_c, alN_c, rdW_c, rdS_c, isK_c, vI_ex, vL_ex, vR_ex, vR_exs, vR_exn, pt_c, wrI_c, wrZ_c, wrL_c, wrR_c, opI_c, opL_c, op2I_c, op2L_c, hs_eq, hs_ne, hs_1, List.getElem?_cons_zero, List.getElem?_cons_succ, List.set_cons_zero, List.set_cons_succ, List.length_cons, List.length_nil, Nat.reduceAdd, Nat.reduceLT, lg0, lg1, lg2, lg3, lg4, lg5, lg6, lg7, lg8, lg9, lg10, lg11, lg12, lg13, lg14, lg15, lg16, lg17, lg18, lg19, lg20, ls0, ls1, ls2, ls3, ls4, ls5, ls6, ls7, ls8, ls9, ls10, ls11, ls12, ls13, ls14, ls15, ls16, ls17, ls18, ls19, ls20, lt0, lt1, lt2, lt3, lt4, lt5, lt6, lt7, lt8, lt9, lt10, lt11, lt12, lt13, lt14, lt15, lt16, lt17, lt18, lt19, lt20, eq_self, mc_8, mc_9, mc_11, mc_12, mc_13, mc_14, mc_15, mc_17, mc_18, mc_20, mc_21, mc_22, mc_23, mc_24, mc_25, mc_26, mc_27, mc_28, mc_29, mc_30, mc_31, mc_32, mc_33, mc_34, mc_35, mc_36, mc_37, mc_38, mc_39, mc_40, mc_41, mc_42, mc_43, mc_44, mc_45, mc_46, mc_47, mc_48, mc_49, mc_50, mc_51, mc_52, mc_53, mc_54, mc_55, mc_57, mc_58, mc_59, mc_60, mc_61, mc_62, mc_63, mc_65, mc_68, mc_69, mc_70, mc_71, mc_72, mc_73, mc_75, mc_76, mc_77, mc_78, mc_80, mc_81, mc_82, mc_83, mc_84, mc_85, mc_86, mc_87, mc_88, mc_89, mc_90, mc_91, mc_93, mc_94, mc_95, mc_96, mc_97, mc_98, mc_99, mc_100, mc_101, mc_103, mc_104, mc_105, mc_106, mc_107, mc_108, mc_109, mc_110, mc_111, mc_112, mc_113, mc_114, mc_115, mc_116, mc_117, mc_118, mc_120, mc_121, mc_122, mc_123, mc_124, mc_125, mc_126, mc_127, mc_128, mc_131, mc_132, mc_133, mc_134, mc_135, mc_136, mc_137, mc_138, mc_139, mc_140, mc_141, mc_142, mc_143, mc_147, mc_151, mc_152, mc_153, mc_155, mc_156, mc_157, mc_158, mc_159, mc_160, mc_161, mc_162, mc_163, mc_164, mc_165, mc_166, mc_167, mc_168, mc_169, mc_170, mc_171, mc_172, mc_173, mc_174, mc_175, mc_176, mc_177, mc_178, mc_179, mc_180, mc_181, mc_182, mc_183, mc_184, mc_185, mc_186, mc_187, mc_188, mc_189, mc_190, mc_191, mc_194, mc_195, mc_196, mc_197, mc_198, mc_199, mc_200, mc_202, mc_203, mc_204, mc_205, mc_206, mc_207, mc_208, mc_209, mc_210, mc_211, mc_212, mc_213, mc_214, mc_215, mc_216, mc_217, mc_218, mc_219, mc_220, mc_221, mc_222, mc_223, mc_224, mc_225, mc_226, mc_227, mc_228, mc_229, mc_230, mc_231, mc_232, mc_233, mc_235, mc_236, b2_01, b2_ne, nI01_0, nI01_1, iq_lt, iq_le, iq_ge, iq_gt, iq_eq, iq_ne, iq_eq0, iq_ne0, iq_lt0, iq_ge0, iq_gt0, iq_le0, d_10, d_00, decide_true, decide_false, Bool.not_true, Bool.not_false, n_bit, n_shr, n_shl, nI_add, pk_sub, pk_mul, fa_and, fa_or, fb_xorI, Nat.one_mul, true_and, and_true, oI_0, oI_1, oI_2, oI_3, oI_4, oI_5, oI_6, oI_8, oI_9, oI_12, oI_16, oI_18, oI_32, oI_40, oI_41, oI_43, oI_48, oI_54, oI_55, oI_59, oI_63, oI_64, oI_70, oI_72, oI_97, oI_102, oI_103, oI_124, oI_126, oI_256, oI_512, oI_513, oI_4096, oI_13122, oI_1000000000, oI_1431655765, oI_252645135, oI_858993459, h0', hfr', oL_0, oL_1]
  rw [cn_bL (P := fun z => K1 [some (.ref m), some (.int (b2i f1)), some (.int (b2i f2)), some (.int (nI 8))] (hset h' (m + 43) (aL 8 (vp_updL fr' 0 z))) (0, 0))]
  rw [hK1]; clear hK1 K1
  refine seq_k fun K1 hK1 => ?_
  simp (disch := first | omega | rfl) only [x_seq, x_ist, x_lst, x_ast, x_inc, x_ic, x_lc, x_rn, x_il, x_ll, x_rl, x_add, x_sub, x_mul, x_and, x_or, x_xor, x_shl, x_shr, x_ushr, x_div, x_rem, x_ladd, x_lmul, x_land, x_lor, x_lxor, x_lshl, x_lshr, x_lushr, x_i2l, x_l2i, x_max, x_ifld, x_lfld, x_rfld, x_iald, x_zald, x_lald, x_rald, x_len, x_wt, x_scr, x_slen, x_icmp, x_if, x_cb, x_lcmp, x_nul, x_cnot, x_cand, x_cor, x_cond, x_an, x_ac, x_cV, x_cS, x_scV, x_scS, x_putI, x_putZ, x_putL, x_putR, x_opf, x_iast, x_zast, x_last, x_aast, x_opaI, x_opaL, x_sif, x_ite, x_retI, x_retZ, x_retL, x_retR, x_ret, x_pop, x_sup, lc_i, lc_r, lc_0, lc_n, lc_l, rf_s, rf_n, lI_c, lL_c, lR_c, lR_n, gO_s, gI_c, gL_c, gR_c, gI2_c, gL2_c, gR2_c, gR2_v, gR2_n, rdI_c, rdZ_c, rdL_c, rdR_c, alN_c, rdW_c, rdS_c, isK_c, vI_ex, vL_ex, vR_ex, vR_exs, vR_exn, pt_c, wrI_c, wrZ_c, wrL_c, wrR_c, opI_c, opL_c, op2I_c, op2L_c, hs_eq, hs_ne, hs_1, List.getElem?_cons_zero, List.getElem?_cons_succ, List.set_cons_zero, List.set_cons_succ, List.length_cons, List.length_nil, Nat.reduceAdd, Nat.reduceLT, lg0, lg1, lg2, lg3, lg4, lg5, lg6, lg7, lg8, lg9, lg10, lg11, lg12, lg13, lg14, lg15, lg16, lg17, lg18, lg19, lg20, ls0, ls1, ls2, ls3, ls4, ls5, ls6, ls7, ls8, ls9, ls10, ls11, ls12, ls13, ls14, ls15, ls16, ls17, ls18, ls19, ls20, lt0, lt1, lt2, lt3, lt4, lt5, lt6, lt7, lt8, lt9, lt10, lt11, lt12, lt13, lt14, lt15, lt16, lt17, lt18, lt19, lt20, eq_self, mc_8, mc_9, mc_11, mc_12, mc_13, mc_14, mc_15, mc_17, mc_18, mc_20, mc_21, mc_22, mc_23, mc_24, mc_25, mc_26, mc_27, mc_28, mc_29, mc_30, mc_31, mc_32, mc_33, mc_34, mc_35, mc_36, mc_37, mc_38, mc_39, mc_40, mc_41, mc_42, mc_43, mc_44, mc_45, mc_46, mc_47, mc_48, mc_49, mc_50, mc_51, mc_52, mc_53, mc_54, mc_55, mc_57, mc_58, mc_59, mc_60, mc_61, mc_62, mc_63, mc_65, mc_68, mc_69, mc_70, mc_71, mc_72, mc_73, mc_75, mc_76, mc_77, mc_78, mc_80, mc_81, mc_82, mc_83, mc_84, mc_85, mc_86, mc_87, mc_88, mc_89, mc_90, mc_91, mc_93, mc_94, mc_95, mc_96, mc_97, mc_98, mc_99, mc_100, mc_101, mc_103, mc_104, mc_105, mc_106, mc_107, mc_108, mc_109, mc_110, mc_111, mc_112, mc_113, mc_114, mc_115, mc_116, mc_117, mc_118, mc_120, mc_121, mc_122, mc_123, mc_124, mc_125, mc_126, mc_127, mc_128, mc_131, mc_132, mc_133, mc_134, mc_135, mc_136, mc_137, mc_138, mc_139, mc_140, mc_141, mc_142, mc_143, mc_147, mc_151, mc_152, mc_153, mc_155, mc_156, mc_157, mc_158, mc_159, mc_160, mc_161, mc_162, mc_163, mc_164, mc_165, mc_166, mc_167, mc_168, mc_169, mc_170, mc_171, mc_172, mc_173, mc_174, mc_175, mc_176, mc_177, mc_178, mc_179, mc_180, mc_181, mc_182, mc_183, mc_184, mc_185, mc_186, mc_187, mc_188, mc_189, mc_190, mc_191, mc_194, mc_195, mc_196, mc_197, mc_198, mc_199, mc_200, mc_202, mc_203, mc_204, mc_205, mc_206, mc_207, mc_208, mc_209, mc_210, mc_211, mc_212, mc_213, mc_214, mc_215, mc_216, mc_217, mc_218, mc_219, mc_220, mc_221, mc_222, mc_223, mc_224, mc_225, mc_226, mc_227, mc_228, mc_229, mc_230, mc_231, mc_232, mc_233, mc_235, mc_236, b2_01, b2_ne, nI01_0, nI01_1, iq_lt, iq_le, iq_ge, iq_gt, iq_eq, iq_ne, iq_eq0, iq_ne0, iq_lt0, iq_ge0, iq_gt0, iq_le0, d_10, d_00, decide_true, decide_false, Bool.not_true, Bool.not_false, n_bit, n_shr, n_shl, nI_add, pk_sub, pk_mul, fa_and, fa_or, fb_xorI, Nat.one_mul, true_and, and_true, oI_0, oI_1, oI_2, oI_3, oI_4, oI_5, oI_6, oI_8, oI_9, oI_12, oI_16, oI_18, oI_32, oI_40, oI_41, oI_43, oI_48, oI_54, oI_55, oI_59, oI_63, oI_64, oI_70, oI_72, oI_97, oI_102, oI_103, oI_124, oI_126, oI_256, oI_512, oI_513, oI_4096, oI_13122, oI_1000000000, oI_1431655765, oI_252645135, oI_858993459, h0', hfr', oL_0, oL_1]
  rw [cn_bL (P := fun z => K1 [some (.ref m), some (.int (b2i f1)), some (.int (b2i f2)), some (.int (nI 8))] (hset (hset h' (m + 43) (aL 8 (vp_updL fr' 0 (lN (if f1 then 1 else 0))))) (m + 43) (aL 8 (vp_updL (vp_updL fr' 0 (lN (if f1 then 1 else 0))) 4 z))) (0, 0))]
  rw [hK1]; clear hK1 K1
  have hfB : FrO (m + 43) 1 hA (hset (hset h' (m + 43) (aL 8 (vp_updL fr' 0 (lN (if f1 then 1 else 0))))) (m + 43) (aL 8 (vp_updL (vp_updL fr' 0 (lN (if f1 then 1 else 0))) 4 (lN (if f2 then 1 else 0))))) := FrO.trans hf (by exact ⟨rfl, fun x hx => by simp (disch := omega) only [hs_ne]⟩)
  obtain ⟨hB, hhB⟩ : ∃ hB : FH, hB = (hset (hset h' (m + 43) (aL 8 (vp_updL fr' 0 (lN (if f1 then 1 else 0))))) (m + 43) (aL 8 (vp_updL (vp_updL fr' 0 (lN (if f1 then 1 else 0))) 4 (lN (if f2 then 1 else 0))))) := ⟨_, rfl⟩
  rw [← hhB] at hfB ⊢
  have hfrB : hB.2 (m + 43) = some (aL 8 (vp_updL (vp_updL fr' 0 (lN (if f1 then 1 else 0))) 4 (lN (if f2 then 1 else 0)))) := by rw [hhB]; exact hs_eq
  clear hhB h0' hfr' hf
  have hF : frL (vp_updL (vp_updL fr' 0 (lN (if f1 then 1 else 0))) 4 (lN (if f2 then 1 else 0))) = F00 f1 f2 := by
    refine frL_of (fun x hx => by rcases hx with ⟨rfl, -⟩ | ⟨rfl, -⟩ <;> omega) fun x hx => ?_
    have b1 : ∀ f : Bool, (lb (lN (if f then 1 else 0)) (x % 64) = true ↔ x % 64 = 0 ∧ f = true) := fun f => by
      rw [lb_n (by omega)]
      cases f
      · simp
      · have : (2 ^ 0).testBit (x % 64) = true ↔ x % 64 = 0 := by rw [Nat.testBit_two_pow, decide_eq_true_eq]; exact eq_comm
        simp only [if_true, and_true]
        exact this
    unfold vp_updL
    by_cases e4 : x / 64 = 4
    · rw [if_pos e4, b1]
      unfold F00
      constructor
      · rintro ⟨z1, z2⟩; exact Or.inr ⟨by omega, z2⟩
      · rintro (⟨z1, z2⟩ | ⟨z1, z2⟩)
        · omega
        · exact ⟨by omega, z2⟩
    · rw [if_neg e4]
      by_cases e0 : x / 64 = 0
      · rw [if_pos e0, b1]
        unfold F00
        constructor
        · rintro ⟨z1, z2⟩; exact Or.inl ⟨by omega, z2⟩
        · rintro (⟨z1, z2⟩ | ⟨z1, z2⟩)
          · exact ⟨by omega, z2⟩
          · omega
      · rw [if_neg e0, hz _ (by omega), lb_0]
        unfold F00
        constructor
        · intro q; cases q
        · rintro (⟨z1, z2⟩ | ⟨z1, z2⟩) <;> omega
  have hLB : LW m pp cap (va_up Lf 0 L0) hB := hLA.eqv (by rw [hfB.1]; exact Nat.le_refl _) (fun q _ hq => hfB.2 q (by omega))
  have hMB := hMA.frame hfB (by omega)
  obtain ⟨h0, -⟩ := id hMB
  have htw := hLB.1
  have htw : hB.2 (m + 34) = _ := htw
  obtain ⟨⟨FSa, WSa, CSa, ⟨la0, -⟩, -⟩, hcb⟩ := hLB.2.1 0 (by omega)
  have la0 : hB.2 (m + 35) = some (.inr (8, [.ref (pp 0 0), .ref (pp 0 1), .ref (pp 0 2), .int (nI 0)])) := la0
  have hcr := hcb.rng
  refine seq_k fun K1 hK1 => ?_
  simp (disch := first | omega | rfl) only [x_seq, x_ist, x_lst, x_ast, x_inc, x_ic, x_lc, x_rn, x_il, x_ll, x_rl, x_add, x_sub, x_mul, x_and, x_or, x_xor, x_shl, x_shr, x_ushr, x_div, x_rem, x_ladd, x_lmul, x_land, x_lor, x_lxor, x_lshl, x_lshr, x_lushr, x_i2l, x_l2i, x_max, x_ifld, x_lfld, x_rfld, x_iald, x_zald, x_lald, x_rald, x_len, x_wt, x_scr, x_slen, x_icmp, x_if, x_cb, x_lcmp, x_nul, x_cnot, x_cand, x_cor, x_cond, x_an, x_ac, x_cV, x_cS, x_scV, x_scS, x_putI, x_putZ, x_putL, x_putR, x_opf, x_iast, x_zast, x_last, x_aast, x_opaI, x_opaL, x_sif, x_ite, x_retI, x_retZ, x_retL, x_retR, x_ret, x_pop, x_sup, lc_i, lc_r, lc_0, lc_n, lc_l, rf_s, rf_n, lI_c, lL_c, lR_c, lR_n, gO_s, gI_c, gL_c, gR_c, gI2_c, gL2_c, gR2_c, gR2_v, gR2_n, rdI_c, rdZ_c, rdL_c, rdR_c, alN_c, rdW_c, rdS_c, isK_c, vI_ex, vL_ex, vR_ex, vR_exs, vR_exn, pt_c, wrI_c, wrZ_c, wrL_c, wrR_c, opI_c, opL_c, op2I_c, op2L_c, hs_eq, hs_ne, hs_1, List.getElem?_cons_zero, List.getElem?_cons_succ, List.set_cons_zero, List.set_cons_succ, List.length_cons, List.length_nil, Nat.reduceAdd, Nat.reduceLT, lg0, lg1, lg2, lg3, lg4, lg5, lg6, lg7, lg8, lg9, lg10, lg11, lg12, lg13, lg14, lg15, lg16, lg17, lg18, lg19, lg20, ls0, ls1, ls2, ls3, ls4, ls5, ls6, ls7, ls8, ls9, ls10, ls11, ls12, ls13, ls14, ls15, ls16, ls17, ls18, ls19, ls20, lt0, lt1, lt2, lt3, lt4, lt5, lt6, lt7, lt8, lt9, lt10, lt11, lt12, lt13, lt14, lt15, lt16, lt17, lt18, lt19, lt20, eq_self, mc_8, mc_9, mc_11, mc_12, mc_13, mc_14, mc_15, mc_17, mc_18, mc_20, mc_21, mc_22, mc_23, mc_24, mc_25, mc_26, mc_27, mc_28, mc_29, mc_30, mc_31, mc_32, mc_33, mc_34, mc_35, mc_36, mc_37, mc_38, mc_39, mc_40, mc_41, mc_42, mc_43, mc_44, mc_45, mc_46, mc_47, mc_48, mc_49, mc_50, mc_51, mc_52, mc_53, mc_54, mc_55, mc_57, mc_58, mc_59, mc_60, mc_61, mc_62, mc_63, mc_65, mc_68, mc_69, mc_70, mc_71, mc_72, mc_73, mc_75, mc_76, mc_77, mc_78, mc_80, mc_81, mc_82, mc_83, mc_84, mc_85, mc_86, mc_87, mc_88, mc_89, mc_90, mc_91, mc_93, mc_94, mc_95, mc_96, mc_97, mc_98, mc_99, mc_100, mc_101, mc_103, mc_104, mc_105, mc_106, mc_107, mc_108, mc_109, mc_110, mc_111, mc_112, mc_113, mc_114, mc_115, mc_116, mc_117, mc_118, mc_120, mc_121, mc_122, mc_123, mc_124, mc_125, mc_126, mc_127, mc_128, mc_131, mc_132, mc_133, mc_134, mc_135, mc_136, mc_137, mc_138, mc_139, mc_140, mc_141, mc_142, mc_143, mc_147, mc_151, mc_152, mc_153, mc_155, mc_156, mc_157, mc_158, mc_159, mc_160, mc_161, mc_162, mc_163, mc_164, mc_165, mc_166, mc_167, mc_168, mc_169, mc_170, mc_171, mc_172, mc_173, mc_174, mc_175, mc_176, mc_177, mc_178, mc_179, mc_180, mc_181, mc_182, mc_183, mc_184, mc_185, mc_186, mc_187, mc_188, mc_189, mc_190, mc_191, mc_194, mc_195, mc_196, mc_197, mc_198, mc_199, mc_200, mc_202, mc_203, mc_204, mc_205, mc_206, mc_207, mc_208, mc_209, mc_210, mc_211, mc_212, mc_213, mc_214, mc_215, mc_216, mc_217, mc_218, mc_219, mc_220, mc_221, mc_222, mc_223, mc_224, mc_225, mc_226, mc_227, mc_228, mc_229, mc_230, mc_231, mc_232, mc_233, mc_235, mc_236, b2_01, b2_ne, nI01_0, nI01_1, iq_lt, iq_le, iq_ge, iq_gt, iq_eq, iq_ne, iq_eq0, iq_ne0, iq_lt0, iq_ge0, iq_gt0, iq_le0, d_10, d_00, decide_true, decide_false, Bool.not_true, Bool.not_false, n_bit, n_shr, n_shl, nI_add, pk_sub, pk_mul, fa_and, fa_or, fb_xorI, Nat.one_mul, true_and, and_true, oI_0, oI_1, oI_2, oI_3, oI_4, oI_5, oI_6, oI_8, oI_9, oI_12, oI_16, oI_18, oI_32, oI_40, oI_41, oI_43, oI_48, oI_54, oI_55, oI_59, oI_63, oI_64, oI_70, oI_72, oI_97, oI_102, oI_103, oI_124, oI_126, oI_256, oI_512, oI_513, oI_4096, oI_13122, oI_1000000000, oI_1431655765, oI_252645135, oI_858993459, rdR_o, h0, htw, y0, y1, la0, oI_m1]
  have fn : fndL L0 (F00 f1 f2) = none := fnd_n.mpr fun i hi => absurd hi (by rw [lyn0]; omega)
  refine R_LaddW (y := 0) (gc := 0) (v := []) (by omega) hLB (by omega) hfrB hF (Or.inl ⟨rfl, rfl, rfl⟩) ?_ hcb (Nat.zero_le _) (Nat.zero_le _) (fun h3' pp' t1 t2 t3 => ⟨rfl, ?_⟩)
  · rw [up_1, lyn0, if_neg (by omega)]
  rw [hK1]; clear hK1 K1
  simp (disch := first | omega | rfl) only [x_seq, x_ist, x_lst, x_ast, x_inc, x_ic, x_lc, x_rn, x_il, x_ll, x_rl, x_add, x_sub, x_mul, x_and, x_or, x_xor, x_shl, x_shr, x_ushr, x_div, x_rem, x_ladd, x_lmul, x_land, x_lor, x_lxor, x_lshl, x_lshr, x_lushr, x_i2l, x_l2i, x_max, x_ifld, x_lfld, x_rfld, x_iald, x_zald, x_lald, x_rald, x_len, x_wt, x_scr, x_slen, x_icmp, x_if, x_cb, x_lcmp, x_nul, x_cnot, x_cand, x_cor, x_cond, x_an, x_ac, x_cV, x_cS, x_scV, x_scS, x_putI, x_putZ, x_putL, x_putR, x_opf, x_iast, x_zast, x_last, x_aast, x_opaI, x_opaL, x_sif, x_ite, x_retI, x_retZ, x_retL, x_retR, x_ret, x_pop, x_sup, lc_i, lc_r, lc_0, lc_n, lc_l, rf_s, rf_n, lI_c, lL_c, lR_c, lR_n, gO_s, gI_c, gL_c, gR_c, gI2_c, gL2_c, gR2_c, gR2_v, gR2_n, rdI_c, rdZ_c, rdL_c, rdR_c, alN_c, rdW_c, rdS_c, isK_c, vI_ex, vL_ex, vR_ex, vR_exs, vR_exn, pt_c, wrI_c, wrZ_c, wrL_c, wrR_c, opI_c, opL_c, op2I_c, op2L_c, hs_eq, hs_ne, hs_1, List.getElem?_cons_zero, List.getElem?_cons_succ, List.set_cons_zero, List.set_cons_succ, List.length_cons, List.length_nil, Nat.reduceAdd, Nat.reduceLT, lg0, lg1, lg2, lg3, lg4, lg5, lg6, lg7, lg8, lg9, lg10, lg11, lg12, lg13, lg14, lg15, lg16, lg17, lg18, lg19, lg20, ls0, ls1, ls2, ls3, ls4, ls5, ls6, ls7, ls8, ls9, ls10, ls11, ls12, ls13, ls14, ls15, ls16, ls17, ls18, ls19, ls20, lt0, lt1, lt2, lt3, lt4, lt5, lt6, lt7, lt8, lt9, lt10, lt11, lt12, lt13, lt14, lt15, lt16, lt17, lt18, lt19, lt20, eq_self, mc_8, mc_9, mc_11, mc_12, mc_13, mc_14, mc_15, mc_17, mc_18, mc_20, mc_21, mc_22, mc_23, mc_24, mc_25, mc_26, mc_27, mc_28, mc_29, mc_30, mc_31, mc_32, mc_33, mc_34, mc_35, mc_36, mc_37, mc_38, mc_39, mc_40, mc_41, mc_42, mc_43, mc_44, mc_45, mc_46, mc_47, mc_48, mc_49, mc_50, mc_51, mc_52, mc_53, mc_54, mc_55, mc_57, mc_58, mc_59, mc_60, mc_61, mc_62, mc_63, mc_65, mc_68, mc_69, mc_70, mc_71, mc_72, mc_73, mc_75, mc_76, mc_77, mc_78, mc_80, mc_81, mc_82, mc_83, mc_84, mc_85, mc_86, mc_87, mc_88, mc_89, mc_90, mc_91, mc_93, mc_94, mc_95, mc_96, mc_97, mc_98, mc_99, mc_100, mc_101, mc_103, mc_104, mc_105, mc_106, mc_107, mc_108, mc_109, mc_110, mc_111, mc_112, mc_113, mc_114, mc_115, mc_116, mc_117, mc_118, mc_120, mc_121, mc_122, mc_123, mc_124, mc_125, mc_126, mc_127, mc_128, mc_131, mc_132, mc_133, mc_134, mc_135, mc_136, mc_137, mc_138, mc_139, mc_140, mc_141, mc_142, mc_143, mc_147, mc_151, mc_152, mc_153, mc_155, mc_156, mc_157, mc_158, mc_159, mc_160, mc_161, mc_162, mc_163, mc_164, mc_165, mc_166, mc_167, mc_168, mc_169, mc_170, mc_171, mc_172, mc_173, mc_174, mc_175, mc_176, mc_177, mc_178, mc_179, mc_180, mc_181, mc_182, mc_183, mc_184, mc_185, mc_186, mc_187, mc_188, mc_189, mc_190, mc_191, mc_194, mc_195, mc_196, mc_197, mc_198, mc_199, mc_200, mc_202, mc_203, mc_204, mc_205, mc_206, mc_207, mc_208, mc_209, mc_210, mc_211, mc_212, mc_213, mc_214, mc_215, mc_216, mc_217, mc_218, mc_219, mc_220, mc_221, mc_222, mc_223, mc_224, mc_225, mc_226, mc_227, mc_228, mc_229, mc_230, mc_231, mc_232, mc_233, mc_235, mc_236, b2_01, b2_ne, nI01_0, nI01_1, iq_lt, iq_le, iq_ge, iq_gt, iq_eq, iq_ne, iq_eq0, iq_ne0, iq_lt0, iq_ge0, iq_gt0, iq_le0, d_10, d_00, decide_true, decide_false, Bool.not_true, Bool.not_false, n_bit, n_shr, n_shl, nI_add, pk_sub, pk_mul, fa_and, fa_or, fb_xorI, Nat.one_mul, true_and, and_true, oI_0, oI_1, oI_2, oI_3, oI_4, oI_5, oI_6, oI_8, oI_9, oI_12, oI_16, oI_18, oI_32, oI_40, oI_41, oI_43, oI_48, oI_54, oI_55, oI_59, oI_63, oI_64, oI_70, oI_72, oI_97, oI_102, oI_103, oI_124, oI_126, oI_256, oI_512, oI_513, oI_4096, oI_13122, oI_1000000000, oI_1431655765, oI_252645135, oI_858993459]
  refine hR _ ⟨_, pp', ⟨t1.1, fun z hz2 => ?_, t1.2.2⟩, FrWd.trans hwA (FrWd.trans (FrWd.of hfB (by omega)) t2), t3⟩
  obtain ⟨u1, u2⟩ := t1.2.1 z hz2
  by_cases e : z = 0
  · subst e
    rw [up_1] at u1 u2 ⊢
    refine ⟨u1.cong ?_ fun i hi => ?_, u2⟩
    · rw [up_1, up_1, ad_n, fn]; rfl
    · rw [up_1, up_1] at hi ⊢
      have hi : i < 1 := by
        rw [ad_n, fn] at hi
        exact hi
      have : i = 0 := by omega
      subst this
      unfold adL
      rw [fn]
      exact ⟨rfl, rfl, rfl⟩
  · rw [up_2 e, up_2 e] at u1
    rw [up_2 e] at u2
    rw [up_2 e]
    rw [up_2 e] at u1
    exact ⟨u1, u2⟩
/-- the entries of a layer -/
def EntOk (S : Nat → Str) (d : Nat) (L : Lay) : Prop := ∀ i, i < lyN L → dpF S (lyF L i) d ∧ (lyW L i).length = d
theorem EntOk.zero {S : Nat → Str} {d : Nat} : EntOk S d L0 := fun i hi => absurd hi (by rw [lyn0]; omega)
theorem EntOk.add {S : Nat → Str} {d c : Nat} {L : Lay} {F : Fr} {v : List Nat} (h : EntOk S d L) (hF : dpF S F d) (hv : v.length = d) : EntOk S d (adL L F v c) := fun i hi => by
  unfold adL at hi ⊢
  cases hz : fndL L F with
  | some j =>
    rw [hz] at hi
    exact h i hi
  | none =>
    rw [hz] at hi
    have hi : i < lyN L + 1 := hi
    show dpF S (va_up (lyF L) (lyN L) F i) d ∧ (va_up (lyW L) (lyN L) v i).length = d
    by_cases e : i = lyN L
    · rw [e, up_1, up_1]; exact ⟨hF, hv⟩
    · rw [up_2 e, up_2 e]; exact h i (by omega)
theorem EntOk.lab {S : Nat → Str} {df : Bool} {F : Fr} {v : List Nat} {c W d : Nat} {t : Lay} (hW : ∀ i, i < 2 → WfS (S i)) (h : EntOk S (d + 1) t) (hF : dpF S F d) (hv : v.length = d) : ∀ l, EntOk S (d + 1) (mcL S df F v c t W l).2.1
  | 0 => h
  | l + 1 => by
    have ih := EntOk.lab (df := df) (c := c) (W := W) hW h hF hv l
    rcases hz : mcL S df F v c t W l with ⟨r, t', W'⟩
    rw [hz] at ih
    cases r with
    | some r => rw [mcL_k hz 1]; exact ih
    | none =>
      rw [mcL_s hz]
      split
      · exact ih
      · split
        · exact ih
        · exact ih.add (stF_dp hW hF) (by rw [List.length_append, hv]; rfl)
theorem EntOk.ent {S : Nat → Str} {df : Bool} {W d : Nat} {A : Lay} (hW : ∀ i, i < 2 → WfS (S i)) (h : EntOk S d A) : ∀ i, i ≤ lyN A → EntOk S (d + 1) (mcE S df A W i).2.1
  | 0, _ => EntOk.zero
  | i + 1, hi => by
    have ih := EntOk.ent (df := df) (W := W) hW h i (by omega)
    rcases hz : mcE S df A W i with ⟨r, t', W'⟩
    rw [hz] at ih
    cases r with
    | some r => rw [mcE_k hz 1]; exact ih
    | none =>
      rw [mcE_s hz]
      exact ih.lab hW (h i (by omega)).1 (h i (by omega)).2 6
theorem cap_step {c0 M n : Nat} (hc : capB c0) (hb : max M (n + 1) ≤ 32768) : cpG 10 c0 (max M (n + 1)) = cpG 10 c0 (max M n) + (if n = cpG 10 c0 (max M n) then cpG 10 c0 (max M n) else 0) := by
  have hr := hc.rng
  have h1 : max M n ≤ cpG 10 c0 (max M n) := cp_ge (cp_fuel hc (by omega))
  have h2 : c0 ≤ cpG 10 c0 (max M n) := cp_self
  by_cases e : n = cpG 10 c0 (max M n)
  · rw [if_pos e]
    have e2 : max M n = n := by omega
    have e3 : max M (n + 1) = n + 1 := by omega
    rw [e2] at e h2 ⊢
    rw [e3, cp_full (by omega) (cp_fuel hc (by omega)) (by omega) e.symm]
    omega
  · rw [if_neg e, Nat.add_zero]
    by_cases e4 : n + 1 ≤ M
    · rw [show max M (n + 1) = max M n by omega]
      rfl
    · have e2 : max M n = n := by omega
      have e3 : max M (n + 1) = n + 1 := by omega
      rw [e2] at e h1 ⊢
      rw [e3]
      exact cp_room (by omega)
theorem cap_ad {c0 M c : Nat} {t : Lay} {F : Fr} {v : List Nat} (hc : capB c0) (hb : max M (lyN (adL t F v c)) ≤ 32768) : cpG 10 c0 (max M (lyN (adL t F v c))) = cpG 10 c0 (max M (lyN t)) + (if fndL t F = none ∧ lyN t = cpG 10 c0 (max M (lyN t)) then cpG 10 c0 (max M (lyN t)) else 0) := by
  rw [ad_n] at hb ⊢
  cases hz : fndL t F with
  | some i =>
    simp only [Option.isSome_some, if_true]
    rw [if_neg (fun q => by cases q.1)]
    rfl
  | none =>
    rw [hz] at hb
    have hb : max M (lyN t + 1) ≤ 32768 := hb
    show cpG 10 c0 (max M (lyN t + 1)) = _
    rw [cap_step hc hb]
    congr 1
    by_cases e : lyN t = cpG 10 c0 (max M (lyN t))
    · rw [if_pos e, if_pos ⟨rfl, e⟩]
    · rw [if_neg e, if_neg (fun q => e q.2)]
