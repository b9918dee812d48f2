/-! STRUCTURE of the class: configurations; a removed event -/
def dif (a b : Nat) : Nat := a &&& (b ^^^ 4294967295)
theorem oI_m1 : Int32.ofInt (-1) = nI 4294967295 := rfl
theorem tb_all {i : Nat} : (4294967295 : Nat).testBit i = decide (i < 32) := Nat.testBit_two_pow_sub_one 32 i
theorem dif_bit {a b : Nat} (ha : a < 4294967296) (i : Nat) : (dif a b).testBit i = (a.testBit i && !b.testBit i) := by
  unfold dif
  rw [Nat.testBit_and, Nat.testBit_xor, tb_all]
  by_cases hi : i < 32
  · simp [hi]
  · rw [Nat.testBit_lt_two_pow (Nat.lt_of_lt_of_le ha (pow_le (e := 32) (by omega)))]
    rfl
theorem dif_le (a b : Nat) : dif a b ≤ a := Nat.and_le_left
theorem nz_bit {a : Nat} : a ≠ 0 ↔ ∃ i, a.testBit i = true := by
  constructor
  · intro h
    exact Nat.exists_testBit_of_ne_zero h
  · rintro ⟨i, h⟩ rfl
    simp at h
theorem z_bit {a : Nat} : a = 0 ↔ ∀ i, a.testBit i = false := by
  constructor
  · rintro rfl i
    simp
  · intro h
    exact Nat.eq_of_testBit_eq (fun i => by rw [h]; simp)
theorem dif_z {a b : Nat} (ha : a < 4294967296) : dif a b = 0 ↔ ∀ i, a.testBit i = true → b.testBit i = true := by
  rw [z_bit]
  constructor
  · intro h i hi
    have := h i
    rw [dif_bit ha, hi] at this
    simpa using this
  · intro h i
    rw [dif_bit ha]
    cases hi : a.testBit i
    · rfl
    · rw [h i hi]; rfl
def Cfg (s : Str) (m : Nat) : Prop := m < 2 ^ s.1 ∧ ∀ e, e < s.1 → m.testBit e = true → dif (sC s e) m = 0 ∧ sK s e &&& m = 0
def cfgB (s : Str) (m : Nat) : Bool := decide (m < 2 ^ s.1 ∧ ∀ e, e < s.1 → m.testBit e = true → dif (sC s e) m = 0 ∧ sK s e &&& m = 0)
theorem cfg_t {s : Str} {m : Nat} : cfgB s m = true ↔ Cfg s m := by unfold cfgB Cfg; exact decide_eq_true_iff
theorem cfg_f {s : Str} {m : Nat} : cfgB s m = false ↔ ¬ Cfg s m := by rw [← cfg_t]; cases cfgB s m <;> simp
theorem S_holdsM {g : GE} {Q : Option Value → FH → Bd → Prop} {h : FH} {b : Bd} {a : Nat} {n w v x : Int32} {L D C K O : Nat → Int32} (hg : 2 ≤ g.1) (hs : StrC a n w v L D C K O h) (hx : x < 0) (hq : Q (some (.int (b2i false))) h b) : CallQ 34 g [.ref a, .int x] Q h b := by
  obtain ⟨h0, h1, h2, h3, h4, h5⟩ := hs
  refine CQ_p (d := 1) _ (fun _ => C_eS_holds (Nat.le_of_ble_eq_true rfl)) (by omega) (fun Rr hR g' hg' => ?_) hq
  rw [show eent 3 [.ref a, .int x] = [some (.ref a), some (.int x), none] from rfl]
  simp (disch := first | omega | rfl) only [M_eS_holds, x_seq, x_ist, x_lst, x_ast, x_inc, x_ic, x_lc, x_rn, x_il, x_ll, x_rl, x_add, x_sub, x_mul, x_and, x_or, x_xor, x_shl, x_shr, x_ushr, x_div, x_rem, x_ladd, x_lmul, x_land, x_lor, x_lxor, x_lshl, x_lshr, x_lushr, x_i2l, x_l2i, x_max, x_ifld, x_lfld, x_rfld, x_iald, x_zald, x_lald, x_rald, x_len, x_wt, x_scr, x_slen, x_icmp, x_if, x_cb, x_lcmp, x_nul, x_cnot, x_cand, x_cor, x_cond, x_an, x_ac, x_cV, x_cS, x_scV, x_scS, x_putI, x_putZ, x_putL, x_putR, x_opf, x_iast, x_zast, x_last, x_aast, x_opaI, x_opaL, x_sif, x_ite, x_retI, x_retZ, x_retL, x_retR, x_ret, x_pop, x_sup, lc_i, lc_r, lc_0, lc_n, lc_l, rf_s, rf_n, lI_c, lL_c, lR_c, lR_n, gO_s, gI_c, gL_c, gR_c, gI2_c, gL2_c, gR2_c, gR2_v, gR2_n, rdI_c, rdZ_c, rdL_c, rdR_c, alN_c, rdW_c, rdS_c, isK_c, vI_ex, vL_ex, vR_ex, vR_exs, vR_exn, pt_c, wrI_c, wrZ_c, wrL_c, wrR_c, opI_c, opL_c, op2I_c, op2L_c, hs_eq, hs_ne, hs_1, List.getElem?_cons_zero, List.getElem?_cons_succ, List.set_cons_zero, List.set_cons_succ, List.length_cons, List.length_nil, Nat.reduceAdd, Nat.reduceLT, lg0, lg1, lg2, lg3, lg4, lg5, lg6, lg7, lg8, lg9, lg10, lg11, lg12, lg13, lg14, lg15, lg16, lg17, lg18, lg19, lg20, ls0, ls1, ls2, ls3, ls4, ls5, ls6, ls7, ls8, ls9, ls10, ls11, ls12, ls13, ls14, ls15, ls16, ls17, ls18, ls19, ls20, lt0, lt1, lt2, lt3, lt4, lt5, lt6, lt7, lt8, lt9, lt10, lt11, lt12, lt13, lt14, lt15, lt16, lt17, lt18, lt19, lt20, eq_self, mc_8, mc_9, mc_11, mc_12, mc_13, mc_14, mc_15, mc_17, mc_18, mc_20, mc_21, mc_22, mc_23, mc_24, mc_25, mc_26, mc_27, mc_28, mc_29, mc_30, mc_31, mc_32, mc_33, mc_34, mc_35, mc_36, mc_37, mc_38, mc_39, mc_40, mc_41, mc_42, mc_43, mc_44, mc_45, mc_46, mc_47, mc_48, mc_49, mc_50, mc_51, mc_52, mc_53, mc_54, mc_55, mc_57, mc_58, mc_59, mc_60, mc_61, mc_62, mc_63, mc_65, mc_68, mc_69, mc_70, mc_71, mc_72, mc_73, mc_75, mc_76, mc_77, mc_78, mc_80, mc_81, mc_82, mc_83, mc_84, mc_85, mc_86, mc_87, mc_88, mc_89, mc_90, mc_91, mc_93, mc_94, mc_95, mc_96, mc_97, mc_98, mc_99, mc_100, mc_101, mc_103, mc_104, mc_105, mc_106, mc_107, mc_108, mc_109, mc_110, mc_111, mc_112, mc_113, mc_114, mc_115, mc_116, mc_117, mc_118, mc_120, mc_121, mc_122, mc_123, mc_124, mc_125, mc_126, mc_127, mc_128, mc_131, mc_132, mc_133, mc_134, mc_135, mc_136, mc_137, mc_138, mc_139, mc_140, mc_141, mc_142, mc_143, mc_147, mc_151, mc_152, mc_153, mc_155, mc_156, mc_157, mc_158, mc_159, mc_160, mc_161, mc_162, mc_163, mc_164, mc_165, mc_166, mc_167, mc_168, mc_169, mc_170, mc_171, mc_172, mc_173, mc_174, mc_175, mc_176, mc_177, mc_178, mc_179, mc_180, mc_181, mc_182, mc_183, mc_184, mc_185, mc_186, mc_187, mc_188, mc_189, mc_190, mc_191, mc_194, mc_195, mc_196, mc_197, mc_198, mc_199, mc_200, mc_202, mc_203, mc_204, mc_205, mc_206, mc_207, mc_208, mc_209, mc_210, mc_211, mc_212, mc_213, mc_214, mc_215, mc_216, mc_217, mc_218, mc_219, mc_220, mc_221, mc_222, mc_223, mc_224, mc_225, mc_226, mc_227, mc_228, mc_229, mc_230, mc_231, mc_232, mc_233, mc_235, mc_236, b2_01, b2_ne, nI01_0, nI01_1, iq_lt, iq_le, iq_ge, iq_gt, iq_eq, iq_ne, iq_eq0, iq_ne0, iq_lt0, iq_ge0, iq_gt0, iq_le0, d_10, d_00, decide_true, decide_false, Bool.not_true, Bool.not_false, n_bit, n_shr, n_shl, nI_add, pk_sub, pk_mul, fa_and, fa_or, fb_xorI, Nat.one_mul, true_and, and_true, oI_0, oI_1, oI_2, oI_3, oI_4, oI_5, oI_6, oI_8, oI_9, oI_12, oI_16, oI_18, oI_32, oI_40, oI_41, oI_43, oI_48, oI_54, oI_55, oI_59, oI_63, oI_64, oI_70, oI_72, oI_97, oI_102, oI_103, oI_124, oI_126, oI_256, oI_512, oI_513, oI_4096, oI_13122, oI_1000000000, oI_1431655765, oI_252645135, oI_858993459, h0]
  have hc : icm .lt x 0 = true := decide_eq_true hx
  rw [hc, cn_t, cn_t]
  exact hR
theorem shr_nz {m n : Nat} : decide (m / 2 ^ n = 0) = decide (m < 2 ^ n) := by
  rw [decide_eq_decide, Nat.div_eq_zero_iff]
  have := Nat.two_pow_pos n
  omega
theorem S_holds {g : GE} {Q : Option Value → FH → Bd → Prop} {h : FH} {b : Bd} {a m : Nat} {w v : Int32} {L D C K O : Nat → Int32} {s : Str} (hg : 2 ≤ g.1) (hs : StrC a (nI s.1) w v L D C K O h) (hr : RepS s L D C K) (hw : WfS s) (hm : m < 2147483648) (hq : Q (some (.int (b2i (cfgB s m)))) h b) : CallQ 34 g [.ref a, .int (nI m)] Q h b := by
  obtain ⟨h0, h1, h2, h3, h4, h5⟩ := hs
  have hn := hw.1
  have h8 := p8 hn
  refine CQ_p (d := 1) _ (fun _ => C_eS_holds (Nat.le_of_ble_eq_true rfl)) (by omega) (fun Rr hR g' hg' => ?_) hq
  rw [show eent 3 [.ref a, .int (nI m)] = [some (.ref a), some (.int (nI m)), none] from rfl]
  have hdv : m / 2 ^ s.1 < 2147483648 := Nat.lt_of_le_of_lt (Nat.div_le_self _ _) hm
  simp (disch := first | omega | rfl) only [M_eS_holds, x_seq, x_ist, x_lst, x_ast, x_inc, x_ic, x_lc, x_rn, x_il, x_ll, x_rl, x_add, x_sub, x_mul, x_and, x_or, x_xor, x_shl, x_shr, x_ushr, x_div, x_rem, x_ladd, x_lmul, x_land, x_lor, x_lxor, x_lshl, x_lshr, x_lushr, x_i2l, x_l2i, x_max, x_ifld, x_lfld, x_rfld, x_iald, x_zald, x_lald, x_rald, x_len, x_wt, x_scr, x_slen, x_icmp, x_if, x_cb, x_lcmp, x_nul, x_cnot, x_cand, x_cor, x_cond, x_an, x_ac, x_cV, x_cS, x_scV, x_scS, x_putI, x_putZ, x_putL, x_putR, x_opf, x_iast, x_zast, x_last, x_aast, x_opaI, x_opaL, x_sif, x_ite, x_retI, x_retZ, x_retL, x_retR, x_ret, x_pop, x_sup, lc_i, lc_r, lc_0, lc_n, lc_l, rf_s, rf_n, lI_c, lL_c, lR_c, lR_n, gO_s, gI_c, gL_c, gR_c, gI2_c, gL2_c, gR2_c, gR2_v, gR2_n, rdI_c, rdZ_c, rdL_c, rdR_c, alN_c, rdW_c, rdS_c, isK_c, vI_ex, vL_ex, vR_ex, vR_exs, vR_exn, pt_c, wrI_c, wrZ_c, wrL_c, wrR_c, opI_c, opL_c, op2I_c, op2L_c, hs_eq, hs_ne, hs_1, List.getElem?_cons_zero, List.getElem?_cons_succ, List.set_cons_zero, List.set_cons_succ, List.length_cons, List.length_nil, Nat.reduceAdd, Nat.reduceLT, lg0, lg1, lg2, lg3, lg4, lg5, lg6, lg7, lg8, lg9, lg10, lg11, lg12, lg13, lg14, lg15, lg16, lg17, lg18, lg19, lg20, ls0, ls1, ls2, ls3, ls4, ls5, ls6, ls7, ls8, ls9, ls10, ls11, ls12, ls13, ls14, ls15, ls16, ls17, ls18, ls19, ls20, lt0, lt1, lt2, lt3, lt4, lt5, lt6, lt7, lt8, lt9, lt10, lt11, lt12, lt13, lt14, lt15, lt16, lt17, lt18, lt19, lt20, eq_self, mc_8, mc_9, mc_11, mc_12, mc_13, mc_14, mc_15, mc_17, mc_18, mc_20, mc_21, mc_22, mc_23, mc_24, mc_25, mc_26, mc_27, mc_28, mc_29, mc_30, mc_31, mc_32, mc_33, mc_34, mc_35, mc_36, mc_37, mc_38, mc_39, mc_40, mc_41, mc_42, mc_43, mc_44, mc_45, mc_46, mc_47, mc_48, mc_49, mc_50, mc_51, mc_52, mc_53, mc_54, mc_55, mc_57, mc_58, mc_59, mc_60, mc_61, mc_62, mc_63, mc_65, mc_68, mc_69, mc_70, mc_71, mc_72, mc_73, mc_75, mc_76, mc_77, mc_78, mc_80, mc_81, mc_82, mc_83, mc_84, mc_85, mc_86, mc_87, mc_88, mc_89, mc_90, mc_91, mc_93, mc_94, mc_95, mc_96, mc_97, mc_98, mc_99, mc_100, mc_101, mc_103, mc_104, mc_105, mc_106, mc_107, mc_108, mc_109, mc_110, mc_111, mc_112, mc_113, mc_114, mc_115, mc_116, mc_117, mc_118, mc_120, mc_121, mc_122, mc_123, mc_124, mc_125, mc_126, mc_127, mc_128, mc_131, mc_132, mc_133, mc_134, mc_135, mc_136, mc_137, mc_138, mc_139, mc_140, mc_141, mc_142, mc_143, mc_147, mc_151, mc_152, mc_153, mc_155, mc_156, mc_157, mc_158, mc_159, mc_160, mc_161, mc_162, mc_163, mc_164, mc_165, mc_166, mc_167, mc_168, mc_169, mc_170, mc_171, mc_172, mc_173, mc_174, mc_175, mc_176, mc_177, mc_178, mc_179, mc_180, mc_181, mc_182, mc_183, mc_184, mc_185, mc_186, mc_187, mc_188, mc_189, mc_190, mc_191, mc_194, mc_195, mc_196, mc_197, mc_198, mc_199, mc_200, mc_202, mc_203, mc_204, mc_205, mc_206, mc_207, mc_208, mc_209, mc_210, mc_211, mc_212, mc_213, mc_214, mc_215, mc_216, mc_217, mc_218, mc_219, mc_220, mc_221, mc_222, mc_223, mc_224, mc_225, mc_226, mc_227, mc_228, mc_229, mc_230, mc_231, mc_232, mc_233, mc_235, mc_236, b2_01, b2_ne, nI01_0, nI01_1, iq_lt, iq_le, iq_ge, iq_gt, iq_eq, iq_ne, iq_eq0, iq_ne0, iq_lt0, iq_ge0, iq_gt0, iq_le0, d_10, d_00, decide_true, decide_false, Bool.not_true, Bool.not_false, n_bit, n_shr, n_shl, nI_add, pk_sub, pk_mul, fa_and, fa_or, fb_xorI, Nat.one_mul, true_and, and_true, oI_0, oI_1, oI_2, oI_3, oI_4, oI_5, oI_6, oI_8, oI_9, oI_12, oI_16, oI_18, oI_32, oI_40, oI_41, oI_43, oI_48, oI_54, oI_55, oI_59, oI_63, oI_64, oI_70, oI_72, oI_97, oI_102, oI_103, oI_124, oI_126, oI_256, oI_512, oI_513, oI_4096, oI_13122, oI_1000000000, oI_1431655765, oI_252645135, oI_858993459, h0, cn_f, cn_n, shr_nz, cn_d]
  refine ⟨fun hlt => ?_, fun hlt => ?_⟩
  · refine whl_i s.1 (fun i E h' b' => h' = h ∧ i ≤ s.1 ∧ E = [some (.ref a), some (.int (nI m)), some (.int (nI i))] ∧ ∀ e, e < i → m.testBit e = true → dif (sC s e) m = 0 ∧ sK s e &&& m = 0) ⟨rfl, Nat.zero_le _, rfl, fun e he => absurd he (by omega)⟩ (fun i E h' b' hI J hJ => ?_)
    obtain ⟨rfl, hi, rfl, hall⟩ := hI
    simp (disch := first | omega | rfl) only [x_seq, x_ist, x_lst, x_ast, x_inc, x_ic, x_lc, x_rn, x_il, x_ll, x_rl, x_add, x_sub, x_mul, x_and, x_or, x_xor, x_shl, x_shr, x_ushr, x_div, x_rem, x_ladd, x_lmul, x_land, x_lor, x_lxor, x_lshl, x_lshr, x_lushr, x_i2l, x_l2i, x_max, x_ifld, x_lfld, x_rfld, x_iald, x_zald, x_lald, x_rald, x_len, x_wt, x_scr, x_slen, x_icmp, x_if, x_cb, x_lcmp, x_nul, x_cnot, x_cand, x_cor, x_cond, x_an, x_ac, x_cV, x_cS, x_scV, x_scS, x_putI, x_putZ, x_putL, x_putR, x_opf, x_iast, x_zast, x_last, x_aast, x_opaI, x_opaL, x_sif, x_ite, x_retI, x_retZ, x_retL, x_retR, x_ret, x_pop, x_sup, lc_i, lc_r, lc_0, lc_n, lc_l, rf_s, rf_n, lI_c, lL_c, lR_c, lR_n, gO_s, gI_c, gL_c, gR_c, gI2_c, gL2_c, gR2_c, gR2_v, gR2_n, rdI_c, rdZ_c, rdL_c, rdR_c, alN_c, rdW_c, rdS_c, isK_c, vI_ex, vL_ex, vR_ex, vR_exs, vR_exn, pt_c, wrI_c, wrZ_c, wrL_c, wrR_c, opI_c, opL_c, op2I_c, op2L_c, hs_eq, hs_ne, hs_1, List.getElem?_cons_zero, List.getElem?_cons_succ, List.set_cons_zero, List.set_cons_succ, List.length_cons, List.length_nil, Nat.reduceAdd, Nat.reduceLT, lg0, lg1, lg2, lg3, lg4, lg5, lg6, lg7, lg8, lg9, lg10, lg11, lg12, lg13, lg14, lg15, lg16, lg17, lg18, lg19, lg20, ls0, ls1, ls2, ls3, ls4, ls5, ls6, ls7, ls8, ls9, ls10, ls11, ls12, ls13, ls14, ls15, ls16, ls17, ls18, ls19, ls20, lt0, lt1, lt2, lt3, lt4, lt5, lt6, lt7, lt8, lt9, lt10, lt11, lt12, lt13, lt14, lt15, lt16, lt17, lt18, lt19, lt20, eq_self, mc_8, mc_9, mc_11, mc_12, mc_13, mc_14, mc_15, mc_17, mc_18, mc_20, mc_21, mc_22, mc_23, mc_24, mc_25, mc_26, mc_27, mc_28, mc_29, mc_30, mc_31, mc_32, mc_33, mc_34, mc_35, mc_36, mc_37, mc_38, mc_39, mc_40, mc_41, mc_42, mc_43, mc_44, mc_45, mc_46, mc_47, mc_48, mc_49, mc_50, mc_51, mc_52, mc_53, mc_54, mc_55, mc_57, mc_58, mc_59, mc_60, mc_61, mc_62, mc_63, mc_65, mc_68, mc_69, mc_70, mc_71, mc_72, mc_73, mc_75, mc_76, mc_77, mc_78, mc_80, mc_81, mc_82, mc_83, mc_84, mc_85, mc_86, mc_87, mc_88, mc_89, mc_90, mc_91, mc_93, mc_94, mc_95, mc_96, mc_97, mc_98, mc_99, mc_100, mc_101, mc_103, mc_104, mc_105, mc_106, mc_107, mc_108, mc_109, mc_110, mc_111, mc_112, mc_113, mc_114, mc_115, mc_116, mc_117, mc_118, mc_120, mc_121, mc_122, mc_123, mc_124, mc_125, mc_126, mc_127, mc_128, mc_131, mc_132, mc_133, mc_134, mc_135, mc_136, mc_137, mc_138, mc_139, mc_140, mc_141, mc_142, mc_143, mc_147, mc_151, mc_152, mc_153, mc_155, mc_156, mc_157, mc_158, mc_159, mc_160, mc_161, mc_162, mc_163, mc_164, mc_165, mc_166, mc_167, mc_168, mc_169, mc_170, mc_171, mc_172, mc_173, mc_174, mc_175, mc_176, mc_177, mc_178, mc_179, mc_180, mc_181, mc_182, mc_183, mc_184, mc_185, mc_186, mc_187, mc_188, mc_189, mc_190, mc_191, mc_194, mc_195, mc_196, mc_197, mc_198, mc_199, mc_200, mc_202, mc_203, mc_204, mc_205, mc_206, mc_207, mc_208, mc_209, mc_210, mc_211, mc_212, mc_213, mc_214, mc_215, mc_216, mc_217, mc_218, mc_219, mc_220, mc_221, mc_222, mc_223, mc_224, mc_225, mc_226, mc_227, mc_228, mc_229, mc_230, mc_231, mc_232, mc_233, mc_235, mc_236, b2_01, b2_ne, nI01_0, nI01_1, iq_lt, iq_le, iq_ge, iq_gt, iq_eq, iq_ne, iq_eq0, iq_ne0, iq_lt0, iq_ge0, iq_gt0, iq_le0, d_10, d_00, decide_true, decide_false, Bool.not_true, Bool.not_false, n_bit, n_shr, n_shl, nI_add, pk_sub, pk_mul, fa_and, fa_or, fb_xorI, Nat.one_mul, true_and, and_true, oI_0, oI_1, oI_2, oI_3, oI_4, oI_5, oI_6, oI_8, oI_9, oI_12, oI_16, oI_18, oI_32, oI_40, oI_41, oI_43, oI_48, oI_54, oI_55, oI_59, oI_63, oI_64, oI_70, oI_72, oI_97, oI_102, oI_103, oI_124, oI_126, oI_256, oI_512, oI_513, oI_4096, oI_13122, oI_1000000000, oI_1431655765, oI_252645135, oI_858993459, h0, cn_d]
    refine ⟨fun hi2 => S_contains (by omega) (by omega) ?_, fun hi2 => ?_⟩
    · obtain ⟨-, -, hC, hK⟩ := hr i hi2
      have w1 := (hw.2.1 i hi2).2.2
      have d1 : dif (sC s i) m < 2147483648 := Nat.lt_of_le_of_lt (dif_le _ _) (by omega)
      have d2 : sK s i &&& m < 2147483648 := Nat.lt_of_le_of_lt Nat.and_le_left (by omega)
      have e1 : sC s i &&& (m ^^^ 4294967295) = dif (sC s i) m := rfl
      simp (disch := first | omega | rfl) only [x_seq, x_ist, x_lst, x_ast, x_inc, x_ic, x_lc, x_rn, x_il, x_ll, x_rl, x_add, x_sub, x_mul, x_and, x_or, x_xor, x_shl, x_shr, x_ushr, x_div, x_rem, x_ladd, x_lmul, x_land, x_lor, x_lxor, x_lshl, x_lshr, x_lushr, x_i2l, x_l2i, x_max, x_ifld, x_lfld, x_rfld, x_iald, x_zald, x_lald, x_rald, x_len, x_wt, x_scr, x_slen, x_icmp, x_if, x_cb, x_lcmp, x_nul, x_cnot, x_cand, x_cor, x_cond, x_an, x_ac, x_cV, x_cS, x_scV, x_scS, x_putI, x_putZ, x_putL, x_putR, x_opf, x_iast, x_zast, x_last, x_aast, x_opaI, x_opaL, x_sif, x_ite, x_retI, x_retZ, x_retL, x_retR, x_ret, x_pop, x_sup, lc_i, lc_r, lc_0, lc_n, lc_l, rf_s, rf_n, lI_c, lL_c, lR_c, lR_n, gO_s, gI_c, gL_c, gR_c, gI2_c, gL2_c, gR2_c, gR2_v, gR2_n, rdI_c, rdZ_c, rdL_c, rdR_c, alN_c, rdW_c, rdS_c, isK_c, vI_ex, vL_ex, vR_ex, vR_exs, vR_exn, pt_c, wrI_c, wrZ_c, wrL_c, wrR_c, opI_c, opL_c, op2I_c, op2L_c, hs_eq, hs_ne, hs_1, List.getElem?_cons_zero, List.getElem?_cons_succ, List.set_cons_zero, List.set_cons_succ, List.length_cons, List.length_nil, Nat.reduceAdd, Nat.reduceLT, lg0, lg1, lg2, lg3, lg4, lg5, lg6, lg7, lg8, lg9, lg10, lg11, lg12, lg13, lg14, lg15, lg16, lg17, lg18, lg19, lg20, ls0, ls1, ls2, ls3, ls4, ls5, ls6, ls7, ls8, ls9, ls10, ls11, ls12, ls13, ls14, ls15, ls16, ls17, ls18, ls19, ls20, lt0, lt1, lt2, lt3, lt4, lt5, lt6, lt7, lt8, lt9, lt10, lt11, lt12, lt13, lt14, lt15, lt16, lt17, lt18, lt19, lt20, eq_self, mc_8, mc_9, mc_11, mc_12, mc_13, mc_14, mc_15, mc_17, mc_18, mc_20, mc_21, mc_22, mc_23, mc_24, mc_25, mc_26, mc_27, mc_28, mc_29, mc_30, mc_31, mc_32, mc_33, mc_34, mc_35, mc_36, mc_37, mc_38, mc_39, mc_40, mc_41, mc_42, mc_43, mc_44, mc_45, mc_46, mc_47, mc_48, mc_49, mc_50, mc_51, mc_52, mc_53, mc_54, mc_55, mc_57, mc_58, mc_59, mc_60, mc_61, mc_62, mc_63, mc_65, mc_68, mc_69, mc_70, mc_71, mc_72, mc_73, mc_75, mc_76, mc_77, mc_78, mc_80, mc_81, mc_82, mc_83, mc_84, mc_85, mc_86, mc_87, mc_88, mc_89, mc_90, mc_91, mc_93, mc_94, mc_95, mc_96, mc_97, mc_98, mc_99, mc_100, mc_101, mc_103, mc_104, mc_105, mc_106, mc_107, mc_108, mc_109, mc_110, mc_111, mc_112, mc_113, mc_114, mc_115, mc_116, mc_117, mc_118, mc_120, mc_121, mc_122, mc_123, mc_124, mc_125, mc_126, mc_127, mc_128, mc_131, mc_132, mc_133, mc_134, mc_135, mc_136, mc_137, mc_138, mc_139, mc_140, mc_141, mc_142, mc_143, mc_147, mc_151, mc_152, mc_153, mc_155, mc_156, mc_157, mc_158, mc_159, mc_160, mc_161, mc_162, mc_163, mc_164, mc_165, mc_166, mc_167, mc_168, mc_169, mc_170, mc_171, mc_172, mc_173, mc_174, mc_175, mc_176, mc_177, mc_178, mc_179, mc_180, mc_181, mc_182, mc_183, mc_184, mc_185, mc_186, mc_187, mc_188, mc_189, mc_190, mc_191, mc_194, mc_195, mc_196, mc_197, mc_198, mc_199, mc_200, mc_202, mc_203, mc_204, mc_205, mc_206, mc_207, mc_208, mc_209, mc_210, mc_211, mc_212, mc_213, mc_214, mc_215, mc_216, mc_217, mc_218, mc_219, mc_220, mc_221, mc_222, mc_223, mc_224, mc_225, mc_226, mc_227, mc_228, mc_229, mc_230, mc_231, mc_232, mc_233, mc_235, mc_236, b2_01, b2_ne, nI01_0, nI01_1, iq_lt, iq_le, iq_ge, iq_gt, iq_eq, iq_ne, iq_eq0, iq_ne0, iq_lt0, iq_ge0, iq_gt0, iq_le0, d_10, d_00, decide_true, decide_false, Bool.not_true, Bool.not_false, n_bit, n_shr, n_shl, nI_add, pk_sub, pk_mul, fa_and, fa_or, fb_xorI, Nat.one_mul, true_and, and_true, oI_0, oI_1, oI_2, oI_3, oI_4, oI_5, oI_6, oI_8, oI_9, oI_12, oI_16, oI_18, oI_32, oI_40, oI_41, oI_43, oI_48, oI_54, oI_55, oI_59, oI_63, oI_64, oI_70, oI_72, oI_97, oI_102, oI_103, oI_124, oI_126, oI_256, oI_512, oI_513, oI_4096, oI_13122, oI_1000000000, oI_1431655765, oI_252645135, oI_858993459, h0, h3, h4, hC, hK, bt_n, oI_m1, e1]
      cases hb : m.testBit i
      · simp only [cn_f]
        refine hJ hi2 _ _ _ ⟨rfl, hi2, rfl, fun e he hbe => ?_⟩
        by_cases hei : e = i
        · subst hei; rw [hb] at hbe; cases hbe
        · exact hall e (by omega) hbe
      · simp only [cn_t, cn_n, cn_d, cn_f]
        refine ⟨fun z1 => ⟨fun z2 => ?_, fun z2 => ?_⟩, fun z1 => ?_⟩
        · refine hJ hi2 _ _ _ ⟨rfl, hi2, rfl, fun e he hbe => ?_⟩
          by_cases hei : e = i
          · subst hei; exact ⟨z1, z2⟩
          · exact hall e (by omega) hbe
        · have hc : ¬ Cfg s m := fun hc => z2 (hc.2 i hi2 hb).2
          rw [cfg_f.mpr hc] at hR
          exact hR
        · have hc : ¬ Cfg s m := fun hc => z1 (hc.2 i hi2 hb).1
          rw [cfg_f.mpr hc] at hR
          exact hR
    · have : i = s.1 := by omega
      subst this
      have hc : Cfg s m := ⟨hlt, hall⟩
      rw [cfg_t.mpr hc] at hR
      exact hR
  · have hc : ¬ Cfg s m := fun hc => hlt hc.1
    rw [cfg_f.mpr hc] at hR
    exact hR
/-- a set without one event, the later ones moved -/
def gap (m k : Nat) : Nat := m % 2 ^ k ||| m / 2 ^ (k + 1) * 2 ^ k
theorem gap_bit (m k i : Nat) : (gap m k).testBit i = if i < k then m.testBit i else m.testBit (i + 1) := by
  unfold gap
  rw [Nat.testBit_or, Nat.testBit_mod_two_pow, ← Nat.shiftLeft_eq, Nat.testBit_shiftLeft, ← Nat.shiftRight_eq_div_pow, Nat.testBit_shiftRight]
  by_cases h : i < k
  · simp [h, Nat.not_le.mpr h]
  · simp only [h, decide_false, Bool.false_and, Bool.false_or, if_false, Nat.not_lt.mp h, ge_iff_le, decide_true, Bool.true_and]
    congr 1
    omega
theorem lt_pow_bit {m n : Nat} : m < 2 ^ n ↔ ∀ i, n ≤ i → m.testBit i = false := by
  constructor
  · intro h i hi
    exact Nat.testBit_lt_two_pow (Nat.lt_of_lt_of_le h (pow_le hi))
  · intro h
    exact Nat.lt_pow_two_of_testBit m h
theorem gap_lt {m n k : Nat} (h : m < 2 ^ (n + 1)) (hk : k ≤ n) : gap m k < 2 ^ n := by
  rw [lt_pow_bit] at h ⊢
  intro i hi
  rw [gap_bit, if_neg (by omega)]
  exact h (i + 1) (by omega)
theorem S_closeGap {g : GE} {Q : Option Value → FH → Bd → Prop} {h : FH} {b : Bd} {m k : Nat} (hg : 1 ≤ g.1) (hm : m < 256) (hk : k < 8) (hq : Q (some (.int (nI (gap m k)))) h b) : CallQ 16 g [.int (nI m), .int (nI k)] Q h b := by
  refine CQ_p (d := 0) _ (fun _ => C_eS_closeGap (Nat.le_of_ble_eq_true rfl)) (by omega) (fun Rr hR g' hg' => ?_) hq
  rw [show eent 3 [.int (nI m), .int (nI k)] = [some (.int (nI m)), some (.int (nI k)), none] from rfl]
  have hp : 1 ≤ 2 ^ k := Nat.two_pow_pos k
  simp (disch := first | omega | rfl) only [M_eS_closeGap, x_seq, x_ist, x_lst, x_ast, x_inc, x_ic, x_lc, x_rn, x_il, x_ll, x_rl, x_add, x_sub, x_mul, x_and, x_or, x_xor, x_shl, x_shr, x_ushr, x_div, x_rem, x_ladd, x_lmul, x_land, x_lor, x_lxor, x_lshl, x_lshr, x_lushr, x_i2l, x_l2i, x_max, x_ifld, x_lfld, x_rfld, x_iald, x_zald, x_lald, x_rald, x_len, x_wt, x_scr, x_slen, x_icmp, x_if, x_cb, x_lcmp, x_nul, x_cnot, x_cand, x_cor, x_cond, x_an, x_ac, x_cV, x_cS, x_scV, x_scS, x_putI, x_putZ, x_putL, x_putR, x_opf, x_iast, x_zast, x_last, x_aast, x_opaI, x_opaL, x_sif, x_ite, x_retI, x_retZ, x_retL, x_retR, x_ret, x_pop, x_sup, lc_i, lc_r, lc_0, lc_n, lc_l, rf_s, rf_n, lI_c, lL_c, lR_c, lR_n, gO_s, gI_c, gL_c, gR_c, gI2_c, gL2_c, gR2_c, gR2_v, gR2_n, rdI_c, rdZ_c, rdL_c, rdR_c, alN_c, rdW_c, rdS_c, isK_c, vI_ex, vL_ex, vR_ex, vR_exs, vR_exn, pt_c, wrI_c, wrZ_c, wrL_c, wrR_c, opI_c, opL_c, op2I_c, op2L_c, hs_eq, hs_ne, hs_1, List.getElem?_cons_zero, List.getElem?_cons_succ, List.set_cons_zero, List.set_cons_succ, List.length_cons, List.length_nil, Nat.reduceAdd, Nat.reduceLT, lg0, lg1, lg2, lg3, lg4, lg5, lg6, lg7, lg8, lg9, lg10, lg11, lg12, lg13, lg14, lg15, lg16, lg17, lg18, lg19, lg20, ls0, ls1, ls2, ls3, ls4, ls5, ls6, ls7, ls8, ls9, ls10, ls11, ls12, ls13, ls14, ls15, ls16, ls17, ls18, ls19, ls20, lt0, lt1, lt2, lt3, lt4, lt5, lt6, lt7, lt8, lt9, lt10, lt11, lt12, lt13, lt14, lt15, lt16, lt17, lt18, lt19, lt20, eq_self, mc_8, mc_9, mc_11, mc_12, mc_13, mc_14, mc_15, mc_17, mc_18, mc_20, mc_21, mc_22, mc_23, mc_24, mc_25, mc_26, mc_27, mc_28, mc_29, mc_30, mc_31, mc_32, mc_33, mc_34, mc_35, mc_36, mc_37, mc_38, mc_39, mc_40, mc_41, mc_42, mc_43, mc_44, mc_45, mc_46, mc_47, mc_48, mc_49, mc_50, mc_51, mc_52, mc_53, mc_54, mc_55, mc_57, mc_58, mc_59, mc_60, mc_61, mc_62, mc_63, mc_65, mc_68, mc_69, mc_70, mc_71, mc_72, mc_73, mc_75, mc_76, mc_77, mc_78, mc_80, mc_81, mc_82, mc_83, mc_84, mc_85, mc_86, mc_87, mc_88, mc_89, mc_90, mc_91, mc_93, mc_94, mc_95, mc_96, mc_97, mc_98, mc_99, mc_100, mc_101, mc_103, mc_104, mc_105, mc_106, mc_107, mc_108, mc_109, mc_110, mc_111, mc_112, mc_113, mc_114, mc_115, mc_116, mc_117, mc_118, mc_120, mc_121, mc_122, mc_123, mc_124, mc_125, mc_126, mc_127, mc_128, mc_131, mc_132, mc_133, mc_134, mc_135, mc_136, mc_137, mc_138, mc_139, mc_140, mc_141, mc_142, mc_143, mc_147, mc_151, mc_152, mc_153, mc_155, mc_156, mc_157, mc_158, mc_159, mc_160, mc_161, mc_162, mc_163, mc_164, mc_165, mc_166, mc_167, mc_168, mc_169, mc_170, mc_171, mc_172, mc_173, mc_174, mc_175, mc_176, mc_177, mc_178, mc_179, mc_180, mc_181, mc_182, mc_183, mc_184, mc_185, mc_186, mc_187, mc_188, mc_189, mc_190, mc_191, mc_194, mc_195, mc_196, mc_197, mc_198, mc_199, mc_200, mc_202, mc_203, mc_204, mc_205, mc_206, mc_207, mc_208, mc_209, mc_210, mc_211, mc_212, mc_213, mc_214, mc_215, mc_216, mc_217, mc_218, mc_219, mc_220, mc_221, mc_222, mc_223, mc_224, mc_225, mc_226, mc_227, mc_228, mc_229, mc_230, mc_231, mc_232, mc_233, mc_235, mc_236, b2_01, b2_ne, nI01_0, nI01_1, iq_lt, iq_le, iq_ge, iq_gt, iq_eq, iq_ne, iq_eq0, iq_ne0, iq_lt0, iq_ge0, iq_gt0, iq_le0, d_10, d_00, decide_true, decide_false, Bool.not_true, Bool.not_false, n_bit, n_shr, n_shl, nI_add, pk_sub, pk_mul, fa_and, fa_or, fb_xorI, Nat.one_mul, true_and, and_true, oI_0, oI_1, oI_2, oI_3, oI_4, oI_5, oI_6, oI_8, oI_9, oI_12, oI_16, oI_18, oI_32, oI_40, oI_41, oI_43, oI_48, oI_54, oI_55, oI_59, oI_63, oI_64, oI_70, oI_72, oI_97, oI_102, oI_103, oI_124, oI_126, oI_256, oI_512, oI_513, oI_4096, oI_13122, oI_1000000000, oI_1431655765, oI_252645135, oI_858993459, Nat.and_two_pow_sub_one_eq_mod]
  exact hR
