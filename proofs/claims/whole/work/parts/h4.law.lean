/-! THE LAW: the start, the loop -/
def s0P : Str := (0, fun _ => 0, fun _ => 0, fun _ => 0, fun _ => 0)
def w0P : Sw := (fun _ => s0P, fun _ => 0)
def n0P : Ntt := (0, 0, 0, fun _ => 0, fun _ => 0, fun _ => 0)
def r0P : Rst := (w0P, false, n0P, n0P, 0, fun _ => 0, 0)
def u0P : Unf := (s0P, 0, fun _ => 0, fun _ => 0, fun _ => 0, fun _ => 0)
theorem rep_z {L D C K : Nat → Int32} : RepS s0P L D C K := fun e he => absurd he (Nat.not_lt_zero e)
theorem SpZ.sp {a : Nat} {h : FH} (x : SpZ a h) : SpP a s0P 0 0 h := ⟨_, _, _, _, _, _, _, _, _, _, _, 4294967295, x.1, rep_z, x.2, Or.inr rfl, fun q => by cases q⟩
theorem NetZ.p {a : Nat} {h : FH} (x : NetZ a h) : NetP a n0P h := ⟨_, _, _, x, fun t ht => absurd ht (Nat.not_lt_zero t)⟩
theorem inv_c {x : Nat} {h : FH} (z : ClsZ x h) : InvC x 0 w0P r0P h := by
  obtain ⟨-, h1, h2, h3, h4, h5, h6, h7, h8, h9, h10, h11, h12⟩ := z
  have sp : ∀ i, i < 2 → SpP (pX x i) s0P 0 0 h := fun i hi => by
    have hi2 : i = 0 ∨ i = 1 := by omega
    rcases hi2 with rfl | rfl
    · exact h2.sp
    · exact h3.sp
  refine ⟨⟨fun _ => 0, fun i _ => Nat.zero_le _, sp, ?_, ?_⟩, h1, fun i hi => ?_, ⟨_, _, _, _, _, _, _, _, h6⟩, h9.p, h10.p, ⟨u0P, ?_⟩, ?_⟩
  · refine ⟨_, _, _, _, _, _, ⟨_, _, _, _, _, _, _, _, _, h7⟩, fun i hi => ?_, fun k hk => ⟨4294967295, 4294967295, ?_, ?_, Or.inr rfl, Or.inr rfl, fun q => by cases q⟩⟩
    · have hi2 : i = 0 ∨ i = 1 := by omega
      rcases hi2 with rfl | rfl
      · rfl
      · rfl
    · have hk2 : k = 0 ∨ k = 1 := by omega
      rcases hk2 with rfl | rfl
      · rfl
      · rfl
    · have hk2 : k = 0 ∨ k = 1 := by omega
      rcases hk2 with rfl | rfl
      · rfl
      · rfl
  · refine ⟨0, 0, 0, _, _, _, _, _, _, _, _, _, _, _, _, _, _, h8, fun i hi => ?_, fun t ht => ⟨0, rfl, Nat.le_refl _⟩, Nat.le_refl _, Nat.zero_le _, fun t ht => ⟨0, rfl, Nat.le_refl _⟩, fun i hi => ⟨4294967295, ?_, Or.inr rfl, fun q => by cases q⟩, 4294967295, 4294967295, rfl, rfl, Or.inr rfl, Or.inr rfl, fun q => by cases q⟩
    · have hi2 : i = 0 ∨ i = 1 := by omega
      rcases hi2 with rfl | rfl
      · rfl
      · rfl
    · have hi2 : i = 0 ∨ i = 1 := by omega
      rcases hi2 with rfl | rfl
      · rfl
      · rfl
  · have hi2 : i = 0 ∨ i = 1 := by omega
    rcases hi2 with rfl | rfl
    · exact ⟨_, _, _, _, _, _, h4, rep_z⟩
    · exact ⟨_, _, _, _, _, _, h5, rep_z⟩
  · obtain ⟨y1, y2⟩ := h11
    exact ⟨_, _, _, _, _, _, _, _, _, _, _, _, _, y2, rep_z, y1, fun c hc => absurd hc (Nat.not_lt_zero c), fun e he => absurd he (Nat.not_lt_zero e)⟩
  · obtain ⟨y1, y2⟩ := h12
    exact ⟨_, _, _, _, _, _, _, _, _, _, _, _, _, y1, y2, fun i hi => absurd hi (Nat.not_lt_zero i)⟩
theorem twA.arr {a p : Nat} {h : FH} {ci : Nat} {q : Nat} (x : twA ci a p q h) : ∃ f, h.2 a = some (aR (.object (cnm ci)) 2 f) ∧ f 0 = some p ∧ f 1 = some q := ⟨_, x, rfl, rfl⟩
theorem MStZ.p {a : Nat} {h : FH} (x : MStZ a h) : MStP a s0P 0 h := ⟨_, _, _, _, _, x, rep_z⟩
theorem inv_m {m : Nat} {h : FH} (z : RefZ m h) : InvM m w0P r0P (fun _ => 32) h := by
  obtain ⟨h1, h2, ⟨a1, a2, a3⟩, ⟨b1, b2, b3⟩, h3, ⟨c1, c2, c3⟩, ⟨d1, d2⟩, ⟨e1, e2, e3, e4, e5, e6⟩, h4, h5, h6⟩ := z
  have two : ∀ i, i < 2 → i = 0 ∨ i = 1 := fun i hi => by omega
  refine ⟨fun _ => 0, ⟨h2, ?_, ?_⟩, ⟨rfl, ⟨rfl, rfl, rfl⟩, ⟨rfl, rfl, rfl⟩, rfl, rfl⟩, ⟨?_, ?_⟩, ⟨_, _, _, _, _, _, _, h3⟩, ⟨fun y k => m + 36 + 4 * y + k, fun _ => L0, c1, ?_, ?_⟩, ⟨_, d1⟩, ⟨_, d2⟩, ⟨_, _, _, e1, e2, e3, fun t ht => absurd ht (Nat.not_lt_zero t)⟩, ⟨_, _, _, e4, e5, e6, fun t ht => absurd ht (Nat.not_lt_zero t)⟩, ⟨u0P, _, _, _, _, _, _, _, _, _, _, _, h5, rep_z, h4, fun c hc => absurd hc (Nat.not_lt_zero c), fun e he => absurd he (Nat.not_lt_zero e)⟩, ⟨_, h6, fun i hi => absurd hi (Nat.not_lt_zero i)⟩⟩
  · obtain ⟨f, f0, f1, f2⟩ := a1.arr
    refine ⟨f, f0, fun i hi => ?_⟩
    rcases two i hi with rfl | rfl
    · exact f1
    · exact f2
  · intro i hi
    rcases two i hi with rfl | rfl
    · exact a2.p
    · exact a3.p
  · obtain ⟨f, f0, f1, f2⟩ := b1.arr
    refine ⟨f, f0, fun i hi => ?_⟩
    rcases two i hi with rfl | rfl
    · exact f1
    · exact f2
  · intro i hi
    rcases two i hi with rfl | rfl
    · exact b2.p
    · exact b3.p
  · intro y hy
    refine ⟨?_, 0, by omega, rfl⟩
    rcases two y hy with rfl | rfl
    · obtain ⟨l0, l1, l2, l3⟩ := c2
      exact ⟨_, _, _, ⟨l0, l1, l2, l3⟩, Nat.zero_le _, fun i hi => absurd hi (Nat.not_lt_zero i)⟩
    · obtain ⟨l0, l1, l2, l3⟩ := c3
      exact ⟨_, _, _, ⟨l0, l1, l2, l3⟩, Nat.zero_le _, fun i hi => absurd hi (Nat.not_lt_zero i)⟩
  · refine ⟨by omega, fun y hy k hk => ⟨?_, Or.inl ?_⟩, fun y k y' k' hy hk hy' hk' q => ?_⟩
    · show m + 36 + 4 * y + k < h.1
      omega
    · show m + 36 + 4 * y ≤ m + 36 + 4 * y + k ∧ m + 36 + 4 * y + k < m + 39 + 4 * y
      omega
    · have q : m + 36 + 4 * y + k = m + 36 + 4 * y' + k' := q
      omega
theorem wf_0 : WfP w0P r0P := ⟨fun i _ => ⟨clr_wf (s := s0P), cfg_z⟩, fun i _ => ⟨clr_wf (s := s0P), cfg_z⟩, wf_ntE (N := n0P), wf_ntE (N := n0P), Nat.zero_le _, fun i hi => absurd hi (Nat.not_lt_zero i)⟩
theorem le_6 {i L : Nat} (hi : i ≤ 4000) (hL : L ≤ 3072) : icm .le (nI i) (nI L - nI 6) = decide (i + 6 ≤ L) := by
  refine decide_eq_decide.mpr ?_
  rw [fa_le, nI_toInt (by omega)]
  by_cases h : 6 ≤ L
  · rw [pk_sub h, nI_toInt (by omega)]
    omega
  · have : L = 0 ∨ L = 1 ∨ L = 2 ∨ L = 3 ∨ L = 4 ∨ L = 5 := by omega
    rcases this with rfl | rfl | rfl | rfl | rfl | rfl
    · rw [show (nI 0 - nI 6).toInt = -6 from rfl]; omega
    · rw [show (nI 1 - nI 6).toInt = -5 from rfl]; omega
    · rw [show (nI 2 - nI 6).toInt = -4 from rfl]; omega
    · rw [show (nI 3 - nI 6).toInt = -3 from rfl]; omega
    · rw [show (nI 4 - nI 6).toInt = -2 from rfl]; omega
    · rw [show (nI 5 - nI 6).toInt = -1 from rfl]; omega
theorem sw_k {g : GE} {x k : Nat} {P : Int32 → FH → Bd → Prop} {h : FH} {b : Bd} (hk : k < 512) (h6 : 6 * k + 6 ≤ g.2.2.1) (hP : ∀ z, P z h b) : (i_and (i_scr (i_loc 3)) (i_const 63)).2 g P (lwE g x k) h b := by
  unfold lwE
  simp (disch := first | omega | rfl) only [x_seq, x_ist, x_lst, x_ast, x_inc, x_ic, x_lc, x_rn, x_il, x_ll, x_rl, x_add, x_sub, x_mul, x_and, x_or, x_xor, x_shl, x_shr, x_ushr, x_div, x_rem, x_ladd, x_lmul, x_land, x_lor, x_lxor, x_lshl, x_lshr, x_lushr, x_i2l, x_l2i, x_max, x_ifld, x_lfld, x_rfld, x_iald, x_zald, x_lald, x_rald, x_len, x_wt, x_scr, x_slen, x_icmp, x_if, x_cb, x_lcmp, x_nul, x_cnot, x_cand, x_cor, x_cond, x_an, x_ac, x_cV, x_cS, x_scV, x_scS, x_putI, x_putZ, x_putL, x_putR, x_opf, x_iast, x_zast, x_last, x_aast, x_opaI, x_opaL, x_sif, x_ite, x_retI, x_retZ, x_retL, x_retR, x_ret, x_pop, x_sup, lc_i, lc_r, lc_0, lc_n, lc_l, rf_s, rf_n, lI_c, lL_c, lR_c, lR_n, gO_s, gI_c, gL_c, gR_c, gI2_c, gL2_c, gR2_c, gR2_v, gR2_n, rdI_c, rdZ_c, rdL_c, rdR_c, alN_c, rdW_c, rdS_c, isK_c, vI_ex, vL_ex, vR_ex, vR_exs, vR_exn, pt_c, wrI_c, wrZ_c, wrL_c, wrR_c, opI_c, opL_c, op2I_c, op2L_c, hs_eq, hs_ne, hs_1, List.getElem?_cons_zero, List.getElem?_cons_succ, List.set_cons_zero, List.set_cons_succ, List.length_cons, List.length_nil, Nat.reduceAdd, Nat.reduceLT, lg0, lg1, lg2, lg3, lg4, lg5, lg6, lg7, lg8, lg9, lg10, lg11, lg12, lg13, lg14, lg15, lg16, lg17, lg18, lg19, lg20, ls0, ls1, ls2, ls3, ls4, ls5, ls6, ls7, ls8, ls9, ls10, ls11, ls12, ls13, ls14, ls15, ls16, ls17, ls18, ls19, ls20, lt0, lt1, lt2, lt3, lt4, lt5, lt6, lt7, lt8, lt9, lt10, lt11, lt12, lt13, lt14, lt15, lt16, lt17, lt18, lt19, lt20, eq_self, mc_8, mc_9, mc_11, mc_12, mc_13, mc_14, mc_15, mc_17, mc_18, mc_20, mc_21, mc_22, mc_23, mc_24, mc_25, mc_26, mc_27, mc_28, mc_29, mc_30, mc_31, mc_32, mc_33, mc_34, mc_35, mc_36, mc_37, mc_38, mc_39, mc_40, mc_41, mc_42, mc_43, mc_44, mc_45, mc_46, mc_47, mc_48, mc_49, mc_50, mc_51, mc_52, mc_53, mc_54, mc_55, mc_57, mc_58, mc_59, mc_60, mc_61, mc_62, mc_63, mc_65, mc_68, mc_69, mc_70, mc_71, mc_72, mc_73, mc_75, mc_76, mc_77, mc_78, mc_80, mc_81, mc_82, mc_83, mc_84, mc_85, mc_86, mc_87, mc_88, mc_89, mc_90, mc_91, mc_93, mc_94, mc_95, mc_96, mc_97, mc_98, mc_99, mc_100, mc_101, mc_103, mc_104, mc_105, mc_106, mc_107, mc_108, mc_109, mc_110, mc_111, mc_112, mc_113, mc_114, mc_115, mc_116, mc_117, mc_118, mc_120, mc_121, mc_122, mc_123, mc_124, mc_125, mc_126, mc_127, mc_128, mc_131, mc_132, mc_133, mc_134, mc_135, mc_136, mc_137, mc_138, mc_139, mc_140, mc_141, mc_142, mc_143, mc_147, mc_151, mc_152, mc_153, mc_155, mc_156, mc_157, mc_158, mc_159, mc_160, mc_161, mc_162, mc_163, mc_164, mc_165, mc_166, mc_167, mc_168, mc_169, mc_170, mc_171, mc_172, mc_173, mc_174, mc_175, mc_176, mc_177, mc_178, mc_179, mc_180, mc_181, mc_182, mc_183, mc_184, mc_185, mc_186, mc_187, mc_188, mc_189, mc_190, mc_191, mc_194, mc_195, mc_196, mc_197, mc_198, mc_199, mc_200, mc_202, mc_203, mc_204, mc_205, mc_206, mc_207, mc_208, mc_209, mc_210, mc_211, mc_212, mc_213, mc_214, mc_215, mc_216, mc_217, mc_218, mc_219, mc_220, mc_221, mc_222, mc_223, mc_224, mc_225, mc_226, mc_227, mc_228, mc_229, mc_230, mc_231, mc_232, mc_233, mc_235, mc_236, b2_01, b2_ne, nI01_0, nI01_1, iq_lt, iq_le, iq_ge, iq_gt, iq_eq, iq_ne, iq_eq0, iq_ne0, iq_lt0, iq_ge0, iq_gt0, iq_le0, d_10, d_00, decide_true, decide_false, Bool.not_true, Bool.not_false, n_bit, n_shr, n_shl, nI_add, pk_sub, pk_mul, fa_and, fa_or, fb_xorI, Nat.one_mul, true_and, and_true, oI_0, oI_1, oI_2, oI_3, oI_4, oI_5, oI_6, oI_8, oI_9, oI_12, oI_16, oI_18, oI_32, oI_40, oI_41, oI_43, oI_48, oI_54, oI_55, oI_59, oI_63, oI_64, oI_70, oI_72, oI_97, oI_102, oI_103, oI_124, oI_126, oI_256, oI_512, oI_513, oI_4096, oI_13122, oI_1000000000, oI_1431655765, oI_252645135, oI_858993459]
  exact hP _
theorem law_sem : LawSem := by
  intro g x hg hL
  rw [show eent 4 [.ref g.2.1] = [some (.ref g.2.1), none, none, none] from rfl]
  unfold M_law
  refine seq_k fun K1 hK1 => ?_
  simp (disch := first | omega | rfl) only [x_seq, x_ist, x_lst, x_ast, x_inc, x_ic, x_lc, x_rn, x_il, x_ll, x_rl, x_add, x_sub, x_mul, x_and, x_or, x_xor, x_shl, x_shr, x_ushr, x_div, x_rem, x_ladd, x_lmul, x_land, x_lor, x_lxor, x_lshl, x_lshr, x_lushr, x_i2l, x_l2i, x_max, x_ifld, x_lfld, x_rfld, x_iald, x_zald, x_lald, x_rald, x_len, x_wt, x_scr, x_slen, x_icmp, x_if, x_cb, x_lcmp, x_nul, x_cnot, x_cand, x_cor, x_cond, x_an, x_ac, x_cV, x_cS, x_scV, x_scS, x_putI, x_putZ, x_putL, x_putR, x_opf, x_iast, x_zast, x_last, x_aast, x_opaI, x_opaL, x_sif, x_ite, x_retI, x_retZ, x_retL, x_retR, x_ret, x_pop, x_sup, lc_i, lc_r, lc_0, lc_n, lc_l, rf_s, rf_n, lI_c, lL_c, lR_c, lR_n, gO_s, gI_c, gL_c, gR_c, gI2_c, gL2_c, gR2_c, gR2_v, gR2_n, rdI_c, rdZ_c, rdL_c, rdR_c, alN_c, rdW_c, rdS_c, isK_c, vI_ex, vL_ex, vR_ex, vR_exs, vR_exn, pt_c, wrI_c, wrZ_c, wrL_c, wrR_c, opI_c, opL_c, op2I_c, op2L_c, hs_eq, hs_ne, hs_1, List.getElem?_cons_zero, List.getElem?_cons_succ, List.set_cons_zero, List.set_cons_succ, List.length_cons, List.length_nil, Nat.reduceAdd, Nat.reduceLT, lg0, lg1, lg2, lg3, lg4, lg5, lg6, lg7, lg8, lg9, lg10, lg11, lg12, lg13, lg14, lg15, lg16, lg17, lg18, lg19, lg20, ls0, ls1, ls2, ls3, ls4, ls5, ls6, ls7, ls8, ls9, ls10, ls11, ls12, ls13, ls14, ls15, ls16, ls17, ls18, ls19, ls20, lt0, lt1, lt2, lt3, lt4, lt5, lt6, lt7, lt8, lt9, lt10, lt11, lt12, lt13, lt14, lt15, lt16, lt17, lt18, lt19, lt20, eq_self, mc_8, mc_9, mc_11, mc_12, mc_13, mc_14, mc_15, mc_17, mc_18, mc_20, mc_21, mc_22, mc_23, mc_24, mc_25, mc_26, mc_27, mc_28, mc_29, mc_30, mc_31, mc_32, mc_33, mc_34, mc_35, mc_36, mc_37, mc_38, mc_39, mc_40, mc_41, mc_42, mc_43, mc_44, mc_45, mc_46, mc_47, mc_48, mc_49, mc_50, mc_51, mc_52, mc_53, mc_54, mc_55, mc_57, mc_58, mc_59, mc_60, mc_61, mc_62, mc_63, mc_65, mc_68, mc_69, mc_70, mc_71, mc_72, mc_73, mc_75, mc_76, mc_77, mc_78, mc_80, mc_81, mc_82, mc_83, mc_84, mc_85, mc_86, mc_87, mc_88, mc_89, mc_90, mc_91, mc_93, mc_94, mc_95, mc_96, mc_97, mc_98, mc_99, mc_100, mc_101, mc_103, mc_104, mc_105, mc_106, mc_107, mc_108, mc_109, mc_110, mc_111, mc_112, mc_113, mc_114, mc_115, mc_116, mc_117, mc_118, mc_120, mc_121, mc_122, mc_123, mc_124, mc_125, mc_126, mc_127, mc_128, mc_131, mc_132, mc_133, mc_134, mc_135, mc_136, mc_137, mc_138, mc_139, mc_140, mc_141, mc_142, mc_143, mc_147, mc_151, mc_152, mc_153, mc_155, mc_156, mc_157, mc_158, mc_159, mc_160, mc_161, mc_162, mc_163, mc_164, mc_165, mc_166, mc_167, mc_168, mc_169, mc_170, mc_171, mc_172, mc_173, mc_174, mc_175, mc_176, mc_177, mc_178, mc_179, mc_180, mc_181, mc_182, mc_183, mc_184, mc_185, mc_186, mc_187, mc_188, mc_189, mc_190, mc_191, mc_194, mc_195, mc_196, mc_197, mc_198, mc_199, mc_200, mc_202, mc_203, mc_204, mc_205, mc_206, mc_207, mc_208, mc_209, mc_210, mc_211, mc_212, mc_213, mc_214, mc_215, mc_216, mc_217, mc_218, mc_219, mc_220, mc_221, mc_222, mc_223, mc_224, mc_225, mc_226, mc_227, mc_228, mc_229, mc_230, mc_231, mc_232, mc_233, mc_235, mc_236, b2_01, b2_ne, nI01_0, nI01_1, iq_lt, iq_le, iq_ge, iq_gt, iq_eq, iq_ne, iq_eq0, iq_ne0, iq_lt0, iq_ge0, iq_gt0, iq_le0, d_10, d_00, decide_true, decide_false, Bool.not_true, Bool.not_false, n_bit, n_shr, n_shl, nI_add, pk_sub, pk_mul, fa_and, fa_or, fb_xorI, Nat.one_mul, true_and, and_true, oI_0, oI_1, oI_2, oI_3, oI_4, oI_5, oI_6, oI_8, oI_9, oI_12, oI_16, oI_18, oI_32, oI_40, oI_41, oI_43, oI_48, oI_54, oI_55, oI_59, oI_63, oI_64, oI_70, oI_72, oI_97, oI_102, oI_103, oI_124, oI_126, oI_256, oI_512, oI_513, oI_4096, oI_13122, oI_1000000000, oI_1431655765, oI_252645135, oI_858993459, x_newa, x_anew, x_new, dl_0, dl_1, dl_2, dl_3, dl_4, dl_5, dl_6, dl_8, dl_9, x_iniI, niI_c, x_iniR, niR_c, x_aast, wrR_c, nwP_c, nw_I, nw_Z, nw_L, hnew_c, hset_c, hup_hup, hup_sw, hup_eq, hup_ne]
  refine ⟨by omega, by decide, ?_⟩
  refine S_newM (by omega) ?_ ?_ ?_ (fun h1 z1 z2 => ⟨rfl, ?_⟩)
  · exact hup_eq
  · omega
  · decide
  rw [hK1]; clear hK1 K1
  obtain ⟨p1, H1⟩ := h1
  have hp1 : p1 = x + 121 := z1.1
  subst hp1
  refine seq_k fun K1 hK1 => ?_
  simp (disch := first | omega | rfl) only [x_seq, x_ist, x_lst, x_ast, x_inc, x_ic, x_lc, x_rn, x_il, x_ll, x_rl, x_add, x_sub, x_mul, x_and, x_or, x_xor, x_shl, x_shr, x_ushr, x_div, x_rem, x_ladd, x_lmul, x_land, x_lor, x_lxor, x_lshl, x_lshr, x_lushr, x_i2l, x_l2i, x_max, x_ifld, x_lfld, x_rfld, x_iald, x_zald, x_lald, x_rald, x_len, x_wt, x_scr, x_slen, x_icmp, x_if, x_cb, x_lcmp, x_nul, x_cnot, x_cand, x_cor, x_cond, x_an, x_ac, x_cV, x_cS, x_scV, x_scS, x_putI, x_putZ, x_putL, x_putR, x_opf, x_iast, x_zast, x_last, x_aast, x_opaI, x_opaL, x_sif, x_ite, x_retI, x_retZ, x_retL, x_retR, x_ret, x_pop, x_sup, lc_i, lc_r, lc_0, lc_n, lc_l, rf_s, rf_n, lI_c, lL_c, lR_c, lR_n, gO_s, gI_c, gL_c, gR_c, gI2_c, gL2_c, gR2_c, gR2_v, gR2_n, rdI_c, rdZ_c, rdL_c, rdR_c, alN_c, rdW_c, rdS_c, isK_c, vI_ex, vL_ex, vR_ex, vR_exs, vR_exn, pt_c, wrI_c, wrZ_c, wrL_c, wrR_c, opI_c, opL_c, op2I_c, op2L_c, hs_eq, hs_ne, hs_1, List.getElem?_cons_zero, List.getElem?_cons_succ, List.set_cons_zero, List.set_cons_succ, List.length_cons, List.length_nil, Nat.reduceAdd, Nat.reduceLT, lg0, lg1, lg2, lg3, lg4, lg5, lg6, lg7, lg8, lg9, lg10, lg11, lg12, lg13, lg14, lg15, lg16, lg17, lg18, lg19, lg20, ls0, ls1, ls2, ls3, ls4, ls5, ls6, ls7, ls8, ls9, ls10, ls11, ls12, ls13, ls14, ls15, ls16, ls17, ls18, ls19, ls20, lt0, lt1, lt2, lt3, lt4, lt5, lt6, lt7, lt8, lt9, lt10, lt11, lt12, lt13, lt14, lt15, lt16, lt17, lt18, lt19, lt20, eq_self, mc_8, mc_9, mc_11, mc_12, mc_13, mc_14, mc_15, mc_17, mc_18, mc_20, mc_21, mc_22, mc_23, mc_24, mc_25, mc_26, mc_27, mc_28, mc_29, mc_30, mc_31, mc_32, mc_33, mc_34, mc_35, mc_36, mc_37, mc_38, mc_39, mc_40, mc_41, mc_42, mc_43, mc_44, mc_45, mc_46, mc_47, mc_48, mc_49, mc_50, mc_51, mc_52, mc_53, mc_54, mc_55, mc_57, mc_58, mc_59, mc_60, mc_61, mc_62, mc_63, mc_65, mc_68, mc_69, mc_70, mc_71, mc_72, mc_73, mc_75, mc_76, mc_77, mc_78, mc_80, mc_81, mc_82, mc_83, mc_84, mc_85, mc_86, mc_87, mc_88, mc_89, mc_90, mc_91, mc_93, mc_94, mc_95, mc_96, mc_97, mc_98, mc_99, mc_100, mc_101, mc_103, mc_104, mc_105, mc_106, mc_107, mc_108, mc_109, mc_110, mc_111, mc_112, mc_113, mc_114, mc_115, mc_116, mc_117, mc_118, mc_120, mc_121, mc_122, mc_123, mc_124, mc_125, mc_126, mc_127, mc_128, mc_131, mc_132, mc_133, mc_134, mc_135, mc_136, mc_137, mc_138, mc_139, mc_140, mc_141, mc_142, mc_143, mc_147, mc_151, mc_152, mc_153, mc_155, mc_156, mc_157, mc_158, mc_159, mc_160, mc_161, mc_162, mc_163, mc_164, mc_165, mc_166, mc_167, mc_168, mc_169, mc_170, mc_171, mc_172, mc_173, mc_174, mc_175, mc_176, mc_177, mc_178, mc_179, mc_180, mc_181, mc_182, mc_183, mc_184, mc_185, mc_186, mc_187, mc_188, mc_189, mc_190, mc_191, mc_194, mc_195, mc_196, mc_197, mc_198, mc_199, mc_200, mc_202, mc_203, mc_204, mc_205, mc_206, mc_207, mc_208, mc_209, mc_210, mc_211, mc_212, mc_213, mc_214, mc_215, mc_216, mc_217, mc_218, mc_219, mc_220, mc_221, mc_222, mc_223, mc_224, mc_225, mc_226, mc_227, mc_228, mc_229, mc_230, mc_231, mc_232, mc_233, mc_235, mc_236, b2_01, b2_ne, nI01_0, nI01_1, iq_lt, iq_le, iq_ge, iq_gt, iq_eq, iq_ne, iq_eq0, iq_ne0, iq_lt0, iq_ge0, iq_gt0, iq_le0, d_10, d_00, decide_true, decide_false, Bool.not_true, Bool.not_false, n_bit, n_shr, n_shl, nI_add, pk_sub, pk_mul, fa_and, fa_or, fb_xorI, Nat.one_mul, true_and, and_true, oI_0, oI_1, oI_2, oI_3, oI_4, oI_5, oI_6, oI_8, oI_9, oI_12, oI_16, oI_18, oI_32, oI_40, oI_41, oI_43, oI_48, oI_54, oI_55, oI_59, oI_63, oI_64, oI_70, oI_72, oI_97, oI_102, oI_103, oI_124, oI_126, oI_256, oI_512, oI_513, oI_4096, oI_13122, oI_1000000000, oI_1431655765, oI_252645135, oI_858993459, x_newa, x_anew, x_new, dl_0, dl_1, dl_2, dl_3, dl_4, dl_5, dl_6, dl_8, dl_9, x_iniI, niI_c, x_iniR, niR_c, x_aast, wrR_c, nwP_c, nw_I, nw_Z, nw_L, hnew_c, hset_c, hup_hup, hup_sw, hup_eq, hup_ne]
  refine ⟨by omega, by decide, ?_⟩
  refine R_newM (by omega) ?_ ?_ ?_ (fun h2 y1 y2 => ⟨rfl, ?_⟩)
  · exact hup_eq
  · show 62 ≤ 600000 - 1 - 120 - 1
    omega
  · show 30108 ≤ 7302250 - 15 - 25148 - 42
    omega
  rw [hK1]; clear hK1 K1
  have c2 : InvC x 0 w0P r0P h2 := (inv_c z1).ag (fun q a b => by rw [y2 q (by omega)]; exact hup_ne (by omega))
  have hst : LawI x 0 512 h2 (600000 - 1 - 120 - 1 - 62, 7302250 - (dfl 7).length - 25148 - (dfl 10).length - 30108) := ⟨w0P, r0P, fun _ => 32, c2, inv_m y1, wf_0, by
    show 246 * 512 + (65536 - (32 + 32)) ≤ 600000 - 1 - 120 - 1 - 62
    omega, by
    show 1927 * 512 + 34 * (65536 - (32 + 32)) ≤ 7302250 - 15 - 25148 - 42 - 30108
    omega⟩
  refine seq_k fun K1 hK1 => ?_
  refine seq_k fun K2 hK2 => ?_
  simp (disch := first | omega | rfl) only [x_seq, x_ist, x_lst, x_ast, x_inc, x_ic, x_lc, x_rn, x_il, x_ll, x_rl, x_add, x_sub, x_mul, x_and, x_or, x_xor, x_shl, x_shr, x_ushr, x_div, x_rem, x_ladd, x_lmul, x_land, x_lor, x_lxor, x_lshl, x_lshr, x_lushr, x_i2l, x_l2i, x_max, x_ifld, x_lfld, x_rfld, x_iald, x_zald, x_lald, x_rald, x_len, x_wt, x_scr, x_slen, x_icmp, x_if, x_cb, x_lcmp, x_nul, x_cnot, x_cand, x_cor, x_cond, x_an, x_ac, x_cV, x_cS, x_scV, x_scS, x_putI, x_putZ, x_putL, x_putR, x_opf, x_iast, x_zast, x_last, x_aast, x_opaI, x_opaL, x_sif, x_ite, x_retI, x_retZ, x_retL, x_retR, x_ret, x_pop, x_sup, lc_i, lc_r, lc_0, lc_n, lc_l, rf_s, rf_n, lI_c, lL_c, lR_c, lR_n, gO_s, gI_c, gL_c, gR_c, gI2_c, gL2_c, gR2_c, gR2_v, gR2_n, rdI_c, rdZ_c, rdL_c, rdR_c, alN_c, rdW_c, rdS_c, isK_c, vI_ex, vL_ex, vR_ex, vR_exs, vR_exn, pt_c, wrI_c, wrZ_c, wrL_c, wrR_c, opI_c, opL_c, op2I_c, op2L_c, hs_eq, hs_ne, hs_1, List.getElem?_cons_zero, List.getElem?_cons_succ, List.set_cons_zero, List.set_cons_succ, List.length_cons, List.length_nil, Nat.reduceAdd, Nat.reduceLT, lg0, lg1, lg2, lg3, lg4, lg5, lg6, lg7, lg8, lg9, lg10, lg11, lg12, lg13, lg14, lg15, lg16, lg17, lg18, lg19, lg20, ls0, ls1, ls2, ls3, ls4, ls5, ls6, ls7, ls8, ls9, ls10, ls11, ls12, ls13, ls14, ls15, ls16, ls17, ls18, ls19, ls20, lt0, lt1, lt2, lt3, lt4, lt5, lt6, lt7, lt8, lt9, lt10, lt11, lt12, lt13, lt14, lt15, lt16, lt17, lt18, lt19, lt20, eq_self, mc_8, mc_9, mc_11, mc_12, mc_13, mc_14, mc_15, mc_17, mc_18, mc_20, mc_21, mc_22, mc_23, mc_24, mc_25, mc_26, mc_27, mc_28, mc_29, mc_30, mc_31, mc_32, mc_33, mc_34, mc_35, mc_36, mc_37, mc_38, mc_39, mc_40, mc_41, mc_42, mc_43, mc_44, mc_45, mc_46, mc_47, mc_48, mc_49, mc_50, mc_51, mc_52, mc_53, mc_54, mc_55, mc_57, mc_58, mc_59, mc_60, mc_61, mc_62, mc_63, mc_65, mc_68, mc_69, mc_70, mc_71, mc_72, mc_73, mc_75, mc_76, mc_77, mc_78, mc_80, mc_81, mc_82, mc_83, mc_84, mc_85, mc_86, mc_87, mc_88, mc_89, mc_90, mc_91, mc_93, mc_94, mc_95, mc_96, mc_97, mc_98, mc_99, mc_100, mc_101, mc_103, mc_104, mc_105, mc_106, mc_107, mc_108, mc_109, mc_110, mc_111, mc_112, mc_113, mc_114, mc_115, mc_116, mc_117, mc_118, mc_120, mc_121, mc_122, mc_123, mc_124, mc_125, mc_126, mc_127, mc_128, mc_131, mc_132, mc_133, mc_134, mc_135, mc_136, mc_137, mc_138, mc_139, mc_140, mc_141, mc_142, mc_143, mc_147, mc_151, mc_152, mc_153, mc_155, mc_156, mc_157, mc_158, mc_159, mc_160, mc_161, mc_162, mc_163, mc_164, mc_165, mc_166, mc_167, mc_168, mc_169, mc_170, mc_171, mc_172, mc_173, mc_174, mc_175, mc_176, mc_177, mc_178, mc_179, mc_180, mc_181, mc_182, mc_183, mc_184, mc_185, mc_186, mc_187, mc_188, mc_189, mc_190, mc_191, mc_194, mc_195, mc_196, mc_197, mc_198, mc_199, mc_200, mc_202, mc_203, mc_204, mc_205, mc_206, mc_207, mc_208, mc_209, mc_210, mc_211, mc_212, mc_213, mc_214, mc_215, mc_216, mc_217, mc_218, mc_219, mc_220, mc_221, mc_222, mc_223, mc_224, mc_225, mc_226, mc_227, mc_228, mc_229, mc_230, mc_231, mc_232, mc_233, mc_235, mc_236, b2_01, b2_ne, nI01_0, nI01_1, iq_lt, iq_le, iq_ge, iq_gt, iq_eq, iq_ne, iq_eq0, iq_ne0, iq_lt0, iq_ge0, iq_gt0, iq_le0, d_10, d_00, decide_true, decide_false, Bool.not_true, Bool.not_false, n_bit, n_shr, n_shl, nI_add, pk_sub, pk_mul, fa_and, fa_or, fb_xorI, Nat.one_mul, true_and, and_true, oI_0, oI_1, oI_2, oI_3, oI_4, oI_5, oI_6, oI_8, oI_9, oI_12, oI_16, oI_18, oI_32, oI_40, oI_41, oI_43, oI_48, oI_54, oI_55, oI_59, oI_63, oI_64, oI_70, oI_72, oI_97, oI_102, oI_103, oI_124, oI_126, oI_256, oI_512, oI_513, oI_4096, oI_13122, oI_1000000000, oI_1431655765, oI_252645135, oI_858993459]
  rw [hK2]; clear hK2 K2
  refine whl_i 512 (fun k E h b => E = lwE g x k ∧ k ≤ 512 ∧ 6 * k ≤ g.2.2.1 ∧ LawI x k (512 - k) h b) ⟨rfl, Nat.zero_le _, Nat.zero_le _, hst⟩ (fun k E h b hI J hJ => ?_)
  obtain ⟨rfl, hk, h6, hL2⟩ := hI
  have e6 : icm .le (nI (6 * k)) (nI g.2.2.1 - nI 6) = decide (6 * k + 6 ≤ g.2.2.1) := le_6 (by omega) hL
  unfold lwE
  simp only [x_icmp, x_il, x_sub, x_slen, x_ic, lg0, lg1, lg2, lg3, lI_c, oI_6, eq_self, true_and]
  rw [e6]
  refine cn_i (fun hlt => ?_) (fun hge => ?_)
  · have hk5 : k < 512 := by omega
    obtain ⟨r, hr⟩ : ∃ r, 512 - k = r + 1 := ⟨512 - k - 1, by omega⟩
    rw [hr] at hL2
    have nxt : ∀ h' b', LawI x (k + 1) r h' b' → (s_inc 3 6).2 g J lawEnd (lwE g x k) h' b' := fun h' b' q => by
      unfold lwE
      simp only [x_inc, lg0, lg1, lg2, lg3, ls0, ls1, ls2, ls3, lc_r, lI_c, oI_6, nI_add]
      have e : 512 - (k + 1) = r := by omega
      exact hJ hk5 _ _ _ ⟨rfl, hk5, by omega, by rw [e]; exact q⟩
    refine seq_k fun K2 hK2 => ?_
    show (i_and (i_scr (i_loc 3)) (i_const 63)).2 g (fun z h b => if z.toInt < 0 then K2 (lwE g x k) h b else match law_cases[z.toInt.toNat]? with | some s => s.2 g K2 lawEnd (lwE g x k) h b | none => K2 (lwE g x k) h b) (lwE g x k) h b
    have dflt : K2 (lwE g x k) h b := by
      rw [hK2]
      obtain ⟨σ, R, cap, q1, q2, q3, q4⟩ := hL2
      exact nxt h b ⟨σ, R, cap, q1.mono (by omega), q2, q3, q4.less⟩
    refine sw_k hk5 hlt (fun z => ?_)
    by_cases hz : z.toInt < 0
    · rw [if_pos hz]; exact dflt
    · rw [if_neg hz]
      cases hs : law_cases[z.toInt.toNat]? with
      | none => exact dflt
      | some s => exact G_all (by omega) hk5 hlt s (List.mem_of_getElem? hs) K2 h b hL2 (fun h' b' q => by rw [hK2]; exact nxt h' b' q)
  · rw [hK1]
    exact ⟨Or.inr rfl, rfl⟩
