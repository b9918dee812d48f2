/-! SPACE of the class: in how many ways -/
theorem dif_lt {m t : Nat} (hm : m < 256) (h0 : t ≠ 0) (h : t &&& m = t) : dif m t < m := by
  rcases Nat.lt_or_ge (dif m t) m with q | q
  · exact q
  · exfalso
    have e : dif m t = m := Nat.le_antisymm (dif_le _ _) q
    obtain ⟨i, hi⟩ := nz_bit.mp h0
    have h1 : m.testBit i = true := by
      rw [← h, Nat.testBit_and, Bool.and_eq_true] at hi
      exact hi.2
    have h2 := dif_bit (a := m) (b := t) (by omega) i
    rw [e, h1, hi] at h2
    cases h2
def wyC (s : Str) (bs : Bool) (m t : Nat) : Bool := (bs || decide (popc t = 1)) && stpB s (dif m t) t
def wyf (s : Str) (bs : Bool) : Nat → Nat → Nat
  | 0, _ => 1
  | f + 1, m => if m = 0 then 1 else ((subs m).map (fun t => if wyC s bs m t then wyf s bs f (dif m t) else 0)).sum
def wy (s : Str) (bs : Bool) (m : Nat) : Nat := wyf s bs m m
theorem wyf_0 {s : Str} {bs : Bool} : ∀ f, wyf s bs f 0 = 1
  | 0 => rfl
  | _ + 1 => rfl
theorem wyf_eq {s : Str} {bs : Bool} : ∀ (m f : Nat), m < 256 → m ≤ f → wyf s bs f m = wy s bs m := fun m => by
  induction m using Nat.strongRecOn with
  | _ m ih =>
    intro f hm hf
    by_cases h0 : m = 0
    · subst h0; rw [wyf_0]; rfl
    · obtain ⟨f', rfl⟩ : ∃ f', f = f' + 1 := ⟨f - 1, by omega⟩
      obtain ⟨m', rfl⟩ : ∃ m', m = m' + 1 := ⟨m - 1, by omega⟩
      show (if m' + 1 = 0 then 1 else _) = (if m' + 1 = 0 then 1 else _)
      rw [if_neg h0, if_neg h0]
      congr 1
      refine List.map_congr_left fun t ht => ?_
      obtain ⟨h1, h2, h3⟩ := mem_subs.mp ht
      have hl := dif_lt hm h2 h3
      split
      · rw [ih _ hl f' (by omega) (by omega), ih _ hl m' (by omega) (by omega)]
      · rfl
theorem wy_0 {s : Str} {bs : Bool} : wy s bs 0 = 1 := rfl
theorem wy_s {s : Str} {bs : Bool} {m : Nat} (h0 : m ≠ 0) (hm : m < 256) : wy s bs m = ((subs m).map (fun t => if wyC s bs m t then wy s bs (dif m t) else 0)).sum := by
  obtain ⟨m', rfl⟩ : ∃ m', m = m' + 1 := ⟨m - 1, by omega⟩
  have e : wy s bs (m' + 1) = if m' + 1 = 0 then 1 else ((subs (m' + 1)).map (fun t => if wyC s bs (m' + 1) t then wyf s bs m' (dif (m' + 1) t) else 0)).sum := rfl
  rw [e, if_neg h0]
  congr 1
  refine List.map_congr_left fun t ht => ?_
  obtain ⟨h1, h2, h3⟩ := mem_subs.mp ht
  have hl := dif_lt hm h2 h3
  split
  · exact wyf_eq _ _ (by omega) (by omega)
  · rfl
theorem and_of_wk {o t : Nat} (h : t &&& o = t) (i : Nat) : t.testBit i = true → o.testBit i = true := fun q => by
  rw [← h, Nat.testBit_and, Bool.and_eq_true] at q
  exact q.2
theorem S_sumWays {g : GE} {Q : Option Value → FH → Bd → Prop} {h : FH} {b : Bd} {p m : Nat} {w v : Nat} {L D C K O P X F G W : Nat → Int32} {T : Nat → Int64} {s : Str} {bs : Bool} (hg : 5 ≤ g.1) (hs : StrC (p + 1) (nI s.1) (nI w) (nI v) L D C K O h) (hr : RepS s L D C K) (ho : SpcO p (nI v) P X F G W T h) (hV : SpcV s P X F G) (hw : WfS s) (hm : m < 256) (hW : ∀ t, t ≠ 0 → t &&& m = t → stpB s (dif m t) t = true → W (dif m t) = nI (wy s bs (dif m t))) (hq : Q (some (.int (nI ((subs m).map (fun t => if wyC s bs m t then wy s bs (dif m t) else 0)).sum))) h b) : CallQ 60 g [.ref p, .int (nI m), .int (b2i bs)] Q h b := by
  refine CQ_p (d := 4) _ (fun _ => C_eP_sumOfWays (Nat.le_of_ble_eq_true rfl)) (by omega) (fun Rr hR g' hg' => ?_) hq
  rw [show eent 5 [.ref p, .int (nI m), .int (b2i bs)] = [some (.ref p), some (.int (nI m)), some (.int (b2i bs)), none, none] from rfl]
  have hp' : SpW p s w v h := ⟨L, D, C, K, O, P, X, F, G, W, T, hs, hr, ho, hV⟩
  obtain ⟨k0, k1, k2, k3, k4, k5, k6⟩ := ho
  rw [← wk_subs _ hm] at hR
  simp (disch := first | omega | rfl) only [M_eP_sumOfWays, x_seq, x_ist, x_lst, x_ast, x_inc, x_ic, x_lc, x_rn, x_il, x_ll, x_rl, x_add, x_sub, x_mul, x_and, x_or, x_xor, x_shl, x_shr, x_ushr, x_div, x_rem, x_ladd, x_lmul, x_land, x_lor, x_lxor, x_lshl, x_lshr, x_lushr, x_i2l, x_l2i, x_max, x_ifld, x_lfld, x_rfld, x_iald, x_zald, x_lald, x_rald, x_len, x_wt, x_scr, x_slen, x_icmp, x_if, x_cb, x_lcmp, x_nul, x_cnot, x_cand, x_cor, x_cond, x_an, x_ac, x_cV, x_cS, x_scV, x_scS, x_putI, x_putZ, x_putL, x_putR, x_opf, x_iast, x_zast, x_last, x_aast, x_opaI, x_opaL, x_sif, x_ite, x_retI, x_retZ, x_retL, x_retR, x_ret, x_pop, x_sup, lc_i, lc_r, lc_0, lc_n, lc_l, rf_s, rf_n, lI_c, lL_c, lR_c, lR_n, gO_s, gI_c, gL_c, gR_c, gI2_c, gL2_c, gR2_c, gR2_v, gR2_n, rdI_c, rdZ_c, rdL_c, rdR_c, alN_c, rdW_c, rdS_c, isK_c, vI_ex, vL_ex, vR_ex, vR_exs, vR_exn, pt_c, wrI_c, wrZ_c, wrL_c, wrR_c, opI_c, opL_c, op2I_c, op2L_c, hs_eq, hs_ne, hs_1, List.getElem?_cons_zero, List.getElem?_cons_succ, List.set_cons_zero, List.set_cons_succ, List.length_cons, List.length_nil, Nat.reduceAdd, Nat.reduceLT, lg0, lg1, lg2, lg3, lg4, lg5, lg6, lg7, lg8, lg9, lg10, lg11, lg12, lg13, lg14, lg15, lg16, lg17, lg18, lg19, lg20, ls0, ls1, ls2, ls3, ls4, ls5, ls6, ls7, ls8, ls9, ls10, ls11, ls12, ls13, ls14, ls15, ls16, ls17, ls18, ls19, ls20, lt0, lt1, lt2, lt3, lt4, lt5, lt6, lt7, lt8, lt9, lt10, lt11, lt12, lt13, lt14, lt15, lt16, lt17, lt18, lt19, lt20, eq_self, mc_8, mc_9, mc_11, mc_12, mc_13, mc_14, mc_15, mc_17, mc_18, mc_20, mc_21, mc_22, mc_23, mc_24, mc_25, mc_26, mc_27, mc_28, mc_29, mc_30, mc_31, mc_32, mc_33, mc_34, mc_35, mc_36, mc_37, mc_38, mc_39, mc_40, mc_41, mc_42, mc_43, mc_44, mc_45, mc_46, mc_47, mc_48, mc_49, mc_50, mc_51, mc_52, mc_53, mc_54, mc_55, mc_57, mc_58, mc_59, mc_60, mc_61, mc_62, mc_63, mc_65, mc_68, mc_69, mc_70, mc_71, mc_72, mc_73, mc_75, mc_76, mc_77, mc_78, mc_80, mc_81, mc_82, mc_83, mc_84, mc_85, mc_86, mc_87, mc_88, mc_89, mc_90, mc_91, mc_93, mc_94, mc_95, mc_96, mc_97, mc_98, mc_99, mc_100, mc_101, mc_103, mc_104, mc_105, mc_106, mc_107, mc_108, mc_109, mc_110, mc_111, mc_112, mc_113, mc_114, mc_115, mc_116, mc_117, mc_118, mc_120, mc_121, mc_122, mc_123, mc_124, mc_125, mc_126, mc_127, mc_128, mc_131, mc_132, mc_133, mc_134, mc_135, mc_136, mc_137, mc_138, mc_139, mc_140, mc_141, mc_142, mc_143, mc_147, mc_151, mc_152, mc_153, mc_155, mc_156, mc_157, mc_158, mc_159, mc_160, mc_161, mc_162, mc_163, mc_164, mc_165, mc_166, mc_167, mc_168, mc_169, mc_170, mc_171, mc_172, mc_173, mc_174, mc_175, mc_176, mc_177, mc_178, mc_179, mc_180, mc_181, mc_182, mc_183, mc_184, mc_185, mc_186, mc_187, mc_188, mc_189, mc_190, mc_191, mc_194, mc_195, mc_196, mc_197, mc_198, mc_199, mc_200, mc_202, mc_203, mc_204, mc_205, mc_206, mc_207, mc_208, mc_209, mc_210, mc_211, mc_212, mc_213, mc_214, mc_215, mc_216, mc_217, mc_218, mc_219, mc_220, mc_221, mc_222, mc_223, mc_224, mc_225, mc_226, mc_227, mc_228, mc_229, mc_230, mc_231, mc_232, mc_233, mc_235, mc_236, b2_01, b2_ne, nI01_0, nI01_1, iq_lt, iq_le, iq_ge, iq_gt, iq_eq, iq_ne, iq_eq0, iq_ne0, iq_lt0, iq_ge0, iq_gt0, iq_le0, d_10, d_00, decide_true, decide_false, Bool.not_true, Bool.not_false, n_bit, n_shr, n_shl, nI_add, pk_sub, pk_mul, fa_and, fa_or, fb_xorI, Nat.one_mul, true_and, and_true, oI_0, oI_1, oI_2, oI_3, oI_4, oI_5, oI_6, oI_8, oI_9, oI_12, oI_16, oI_18, oI_32, oI_40, oI_41, oI_43, oI_48, oI_54, oI_55, oI_59, oI_63, oI_64, oI_70, oI_72, oI_97, oI_102, oI_103, oI_124, oI_126, oI_256, oI_512, oI_513, oI_4096, oI_13122, oI_1000000000, oI_1431655765, oI_252645135, oI_858993459, k0]
  generalize hN : ((wk m 256 m).map (fun t => if wyC s bs m t then wy s bs (dif m t) else 0)).sum = N at hR
  refine whl_i 256 (fun i E h' b' => h' = h ∧ ∃ t c, E = [some (.ref p), some (.int (nI m)), some (.int (b2i bs)), some (.int (nI c)), some (.int (nI t))] ∧ t + i ≤ 255 ∧ t &&& m = t ∧ c + ((wk m (256 - i) t).map (fun t => if wyC s bs m t then wy s bs (dif m t) else 0)).sum = N) ⟨rfl, m, 0, rfl, by omega, Nat.and_self m, by rw [← hN, Nat.zero_add]⟩ (fun i E h' b' hI J hJ => ?_)
  obtain ⟨rfl, t, c, rfl, ht, htm, hc⟩ := hI
  simp (disch := first | omega | rfl) only [x_seq, x_ist, x_lst, x_ast, x_inc, x_ic, x_lc, x_rn, x_il, x_ll, x_rl, x_add, x_sub, x_mul, x_and, x_or, x_xor, x_shl, x_shr, x_ushr, x_div, x_rem, x_ladd, x_lmul, x_land, x_lor, x_lxor, x_lshl, x_lshr, x_lushr, x_i2l, x_l2i, x_max, x_ifld, x_lfld, x_rfld, x_iald, x_zald, x_lald, x_rald, x_len, x_wt, x_scr, x_slen, x_icmp, x_if, x_cb, x_lcmp, x_nul, x_cnot, x_cand, x_cor, x_cond, x_an, x_ac, x_cV, x_cS, x_scV, x_scS, x_putI, x_putZ, x_putL, x_putR, x_opf, x_iast, x_zast, x_last, x_aast, x_opaI, x_opaL, x_sif, x_ite, x_retI, x_retZ, x_retL, x_retR, x_ret, x_pop, x_sup, lc_i, lc_r, lc_0, lc_n, lc_l, rf_s, rf_n, lI_c, lL_c, lR_c, lR_n, gO_s, gI_c, gL_c, gR_c, gI2_c, gL2_c, gR2_c, gR2_v, gR2_n, rdI_c, rdZ_c, rdL_c, rdR_c, alN_c, rdW_c, rdS_c, isK_c, vI_ex, vL_ex, vR_ex, vR_exs, vR_exn, pt_c, wrI_c, wrZ_c, wrL_c, wrR_c, opI_c, opL_c, op2I_c, op2L_c, hs_eq, hs_ne, hs_1, List.getElem?_cons_zero, List.getElem?_cons_succ, List.set_cons_zero, List.set_cons_succ, List.length_cons, List.length_nil, Nat.reduceAdd, Nat.reduceLT, lg0, lg1, lg2, lg3, lg4, lg5, lg6, lg7, lg8, lg9, lg10, lg11, lg12, lg13, lg14, lg15, lg16, lg17, lg18, lg19, lg20, ls0, ls1, ls2, ls3, ls4, ls5, ls6, ls7, ls8, ls9, ls10, ls11, ls12, ls13, ls14, ls15, ls16, ls17, ls18, ls19, ls20, lt0, lt1, lt2, lt3, lt4, lt5, lt6, lt7, lt8, lt9, lt10, lt11, lt12, lt13, lt14, lt15, lt16, lt17, lt18, lt19, lt20, eq_self, mc_8, mc_9, mc_11, mc_12, mc_13, mc_14, mc_15, mc_17, mc_18, mc_20, mc_21, mc_22, mc_23, mc_24, mc_25, mc_26, mc_27, mc_28, mc_29, mc_30, mc_31, mc_32, mc_33, mc_34, mc_35, mc_36, mc_37, mc_38, mc_39, mc_40, mc_41, mc_42, mc_43, mc_44, mc_45, mc_46, mc_47, mc_48, mc_49, mc_50, mc_51, mc_52, mc_53, mc_54, mc_55, mc_57, mc_58, mc_59, mc_60, mc_61, mc_62, mc_63, mc_65, mc_68, mc_69, mc_70, mc_71, mc_72, mc_73, mc_75, mc_76, mc_77, mc_78, mc_80, mc_81, mc_82, mc_83, mc_84, mc_85, mc_86, mc_87, mc_88, mc_89, mc_90, mc_91, mc_93, mc_94, mc_95, mc_96, mc_97, mc_98, mc_99, mc_100, mc_101, mc_103, mc_104, mc_105, mc_106, mc_107, mc_108, mc_109, mc_110, mc_111, mc_112, mc_113, mc_114, mc_115, mc_116, mc_117, mc_118, mc_120, mc_121, mc_122, mc_123, mc_124, mc_125, mc_126, mc_127, mc_128, mc_131, mc_132, mc_133, mc_134, mc_135, mc_136, mc_137, mc_138, mc_139, mc_140, mc_141, mc_142, mc_143, mc_147, mc_151, mc_152, mc_153, mc_155, mc_156, mc_157, mc_158, mc_159, mc_160, mc_161, mc_162, mc_163, mc_164, mc_165, mc_166, mc_167, mc_168, mc_169, mc_170, mc_171, mc_172, mc_173, mc_174, mc_175, mc_176, mc_177, mc_178, mc_179, mc_180, mc_181, mc_182, mc_183, mc_184, mc_185, mc_186, mc_187, mc_188, mc_189, mc_190, mc_191, mc_194, mc_195, mc_196, mc_197, mc_198, mc_199, mc_200, mc_202, mc_203, mc_204, mc_205, mc_206, mc_207, mc_208, mc_209, mc_210, mc_211, mc_212, mc_213, mc_214, mc_215, mc_216, mc_217, mc_218, mc_219, mc_220, mc_221, mc_222, mc_223, mc_224, mc_225, mc_226, mc_227, mc_228, mc_229, mc_230, mc_231, mc_232, mc_233, mc_235, mc_236, b2_01, b2_ne, nI01_0, nI01_1, iq_lt, iq_le, iq_ge, iq_gt, iq_eq, iq_ne, iq_eq0, iq_ne0, iq_lt0, iq_ge0, iq_gt0, iq_le0, d_10, d_00, decide_true, decide_false, Bool.not_true, Bool.not_false, n_bit, n_shr, n_shl, nI_add, pk_sub, pk_mul, fa_and, fa_or, fb_xorI, Nat.one_mul, true_and, and_true, oI_0, oI_1, oI_2, oI_3, oI_4, oI_5, oI_6, oI_8, oI_9, oI_12, oI_16, oI_18, oI_32, oI_40, oI_41, oI_43, oI_48, oI_54, oI_55, oI_59, oI_63, oI_64, oI_70, oI_72, oI_97, oI_102, oI_103, oI_124, oI_126, oI_256, oI_512, oI_513, oI_4096, oI_13122, oI_1000000000, oI_1431655765, oI_252645135, oI_858993459, k0, cn_d]
  rw [show 256 - i = (256 - (i + 1)) + 1 by omega] at hc
  refine ⟨fun q => ?_, fun q => ?_⟩
  · have hle := and_sub_le (t := t) (o := m)
    have l1 := popc_le t
    have hdl := dif_lt hm (by omega) htm
    rw [wk_s (t := t) (by omega), List.map_cons, List.sum_cons] at hc
    have e1 : m &&& (t ^^^ 4294967295) = dif m t := rfl
    have hW1 := hW t (by omega) htm
    have hJ2 := hJ (by omega)
    clear hJ hq
    cases hb1 : bs <;> cases hb2 : decide (popc t = 1) <;> cases hb3 : stpB s (dif m t) t
    all_goals
      subst hb1
      repeat (first | refine S_isStep (by omega) hp' hw (by omega) (by omega) ?_ | refine S_bitCount (by omega) (by omega) ?_ | simp (disch := first | omega | rfl | assumption) only [x_seq, x_ist, x_lst, x_ast, x_inc, x_ic, x_lc, x_rn, x_il, x_ll, x_rl, x_add, x_sub, x_mul, x_and, x_or, x_xor, x_shl, x_shr, x_ushr, x_div, x_rem, x_ladd, x_lmul, x_land, x_lor, x_lxor, x_lshl, x_lshr, x_lushr, x_i2l, x_l2i, x_max, x_ifld, x_lfld, x_rfld, x_iald, x_zald, x_lald, x_rald, x_len, x_wt, x_scr, x_slen, x_icmp, x_if, x_cb, x_lcmp, x_nul, x_cnot, x_cand, x_cor, x_cond, x_an, x_ac, x_cV, x_cS, x_scV, x_scS, x_putI, x_putZ, x_putL, x_putR, x_opf, x_iast, x_zast, x_last, x_aast, x_opaI, x_opaL, x_sif, x_ite, x_retI, x_retZ, x_retL, x_retR, x_ret, x_pop, x_sup, lc_i, lc_r, lc_0, lc_n, lc_l, rf_s, rf_n, lI_c, lL_c, lR_c, lR_n, gO_s, gI_c, gL_c, gR_c, gI2_c, gL2_c, gR2_c, gR2_v, gR2_n, rdI_c, rdZ_c, rdL_c, rdR_c, alN_c, rdW_c, rdS_c, isK_c, vI_ex, vL_ex, vR_ex, vR_exs, vR_exn, pt_c, wrI_c, wrZ_c, wrL_c, wrR_c, opI_c, opL_c, op2I_c, op2L_c, hs_eq, hs_ne, hs_1, List.getElem?_cons_zero, List.getElem?_cons_succ, List.set_cons_zero, List.set_cons_succ, List.length_cons, List.length_nil, Nat.reduceAdd, Nat.reduceLT, lg0, lg1, lg2, lg3, lg4, lg5, lg6, lg7, lg8, lg9, lg10, lg11, lg12, lg13, lg14, lg15, lg16, lg17, lg18, lg19, lg20, ls0, ls1, ls2, ls3, ls4, ls5, ls6, ls7, ls8, ls9, ls10, ls11, ls12, ls13, ls14, ls15, ls16, ls17, ls18, ls19, ls20, lt0, lt1, lt2, lt3, lt4, lt5, lt6, lt7, lt8, lt9, lt10, lt11, lt12, lt13, lt14, lt15, lt16, lt17, lt18, lt19, lt20, eq_self, mc_8, mc_9, mc_11, mc_12, mc_13, mc_14, mc_15, mc_17, mc_18, mc_20, mc_21, mc_22, mc_23, mc_24, mc_25, mc_26, mc_27, mc_28, mc_29, mc_30, mc_31, mc_32, mc_33, mc_34, mc_35, mc_36, mc_37, mc_38, mc_39, mc_40, mc_41, mc_42, mc_43, mc_44, mc_45, mc_46, mc_47, mc_48, mc_49, mc_50, mc_51, mc_52, mc_53, mc_54, mc_55, mc_57, mc_58, mc_59, mc_60, mc_61, mc_62, mc_63, mc_65, mc_68, mc_69, mc_70, mc_71, mc_72, mc_73, mc_75, mc_76, mc_77, mc_78, mc_80, mc_81, mc_82, mc_83, mc_84, mc_85, mc_86, mc_87, mc_88, mc_89, mc_90, mc_91, mc_93, mc_94, mc_95, mc_96, mc_97, mc_98, mc_99, mc_100, mc_101, mc_103, mc_104, mc_105, mc_106, mc_107, mc_108, mc_109, mc_110, mc_111, mc_112, mc_113, mc_114, mc_115, mc_116, mc_117, mc_118, mc_120, mc_121, mc_122, mc_123, mc_124, mc_125, mc_126, mc_127, mc_128, mc_131, mc_132, mc_133, mc_134, mc_135, mc_136, mc_137, mc_138, mc_139, mc_140, mc_141, mc_142, mc_143, mc_147, mc_151, mc_152, mc_153, mc_155, mc_156, mc_157, mc_158, mc_159, mc_160, mc_161, mc_162, mc_163, mc_164, mc_165, mc_166, mc_167, mc_168, mc_169, mc_170, mc_171, mc_172, mc_173, mc_174, mc_175, mc_176, mc_177, mc_178, mc_179, mc_180, mc_181, mc_182, mc_183, mc_184, mc_185, mc_186, mc_187, mc_188, mc_189, mc_190, mc_191, mc_194, mc_195, mc_196, mc_197, mc_198, mc_199, mc_200, mc_202, mc_203, mc_204, mc_205, mc_206, mc_207, mc_208, mc_209, mc_210, mc_211, mc_212, mc_213, mc_214, mc_215, mc_216, mc_217, mc_218, mc_219, mc_220, mc_221, mc_222, mc_223, mc_224, mc_225, mc_226, mc_227, mc_228, mc_229, mc_230, mc_231, mc_232, mc_233, mc_235, mc_236, b2_01, b2_ne, nI01_0, nI01_1, iq_lt, iq_le, iq_ge, iq_gt, iq_eq, iq_ne, iq_eq0, iq_ne0, iq_lt0, iq_ge0, iq_gt0, iq_le0, d_10, d_00, decide_true, decide_false, Bool.not_true, Bool.not_false, n_bit, n_shr, n_shl, nI_add, pk_sub, pk_mul, fa_and, fa_or, fb_xorI, Nat.one_mul, true_and, and_true, oI_0, oI_1, oI_2, oI_3, oI_4, oI_5, oI_6, oI_8, oI_9, oI_12, oI_16, oI_18, oI_32, oI_40, oI_41, oI_43, oI_48, oI_54, oI_55, oI_59, oI_63, oI_64, oI_70, oI_72, oI_97, oI_102, oI_103, oI_124, oI_126, oI_256, oI_512, oI_513, oI_4096, oI_13122, oI_1000000000, oI_1431655765, oI_252645135, oI_858993459, k0, k5, oI_m1, e1, hW1, hb2, hb3, cn_t, cn_f, b2_t, b2_f])
      simp only [wyC, hb2, hb3, Bool.or_true, Bool.or_false, Bool.true_or, Bool.false_or, Bool.and_true, Bool.and_false, Bool.false_and, Bool.true_and, if_true, Bool.false_eq_true, if_false] at hc
      first | exact hJ2 _ _ _ ⟨rfl, (t - 1) &&& m, c, rfl, by omega, and_and_self, by rw [← hc, Nat.zero_add]; rfl⟩ | exact hJ2 _ _ _ ⟨rfl, (t - 1) &&& m, c + wy s _ (dif m t), rfl, by omega, and_and_self, by rw [← hc, Nat.add_assoc]; rfl⟩
  · have : t = 0 := by omega
    subst this
    rw [wk_0] at hc
    simp only [List.map_nil, List.sum_nil, Nat.add_zero] at hc
    rw [hc]
    exact hR
