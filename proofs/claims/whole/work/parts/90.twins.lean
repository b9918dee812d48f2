/-! REFINEMENT of the class: the twins in order; the refined structure is one -/
def rfN (s : Str) (l f1 f2 : Nat) : Nat := (rfS s l f1 f2 s.1).1
def rfO (s : Str) (l f1 f2 : Nat) : Nat → Nat := (rfS s l f1 f2 s.1).2.1
def rfL (s : Str) (l f1 f2 : Nat) : Nat → Nat := (rfS s l f1 f2 s.1).2.2
theorem rfd_1 {s : Str} {l f1 f2 : Nat} {q : Bool} : (rfdS s l f1 f2 q).1 = rfN s l f1 f2 := rfl
theorem rfd_L {s : Str} {l f1 f2 : Nat} {q : Bool} : sL (rfdS s l f1 f2 q) = rfL s l f1 f2 := rfl
theorem rfd_D {s : Str} {l f1 f2 j : Nat} {q : Bool} : sD (rfdS s l f1 f2 q) j = sD s (rfO s l f1 f2 j) := rfl
theorem rfd_C {s : Str} {l f1 f2 j : Nat} {q : Bool} : sC (rfdS s l f1 f2 q) j = bset (fun i => (sC s (rfO s l f1 f2 j)).testBit (rfO s l f1 f2 i)) (rfN s l f1 f2) ||| (if q && (decide (0 < j) && decide (rfO s l f1 f2 j = rfO s l f1 f2 (j - 1))) then 2 ^ (j - 1) else 0) := rfl
theorem rfd_K {s : Str} {l f1 f2 j : Nat} {q : Bool} : sK (rfdS s l f1 f2 q) j = bset (fun i => (sK s (rfO s l f1 f2 j)).testBit (rfO s l f1 f2 i)) (rfN s l f1 f2) := rfl
theorem rfd_Cf {s : Str} {l f1 f2 j : Nat} : sC (rfdS s l f1 f2 false) j = bset (fun i => (sC s (rfO s l f1 f2 j)).testBit (rfO s l f1 f2 i)) (rfN s l f1 f2) := Nat.or_zero _
theorem rfd_Ct {s : Str} {l f1 f2 j : Nat} : sC (rfdS s l f1 f2 true) j = if decide (0 < j) && decide (rfO s l f1 f2 j = rfO s l f1 f2 (j - 1)) then sC (rfdS s l f1 f2 false) j ||| 2 ^ (j - 1) else sC (rfdS s l f1 f2 false) j := by
  rw [rfd_Cf, rfd_C, Bool.true_and]
  split
  · rfl
  · exact Nat.or_zero _
theorem rf_l {s : Str} {l f1 f2 : Nat} (hw : WfS s) (h1 : f1 < 6) (h2 : f2 < 6) : ∀ e, e ≤ s.1 → ∀ j, j < (rfS s l f1 f2 e).1 → (rfS s l f1 f2 e).2.2 j < 6
  | 0, _, j, h => absurd h (Nat.not_lt_zero _)
  | e + 1, he, j, h => by
    have ih := rf_l (l := l) hw h1 h2 e (by omega) j
    have hl6 := (hw.2.1 e (by omega)).1
    simp only [rfS] at h ⊢
    split at h
    · rename_i hl
      rw [if_pos hl]
      simp only [updN]
      split
      · exact h2
      · split
        · exact h1
        · exact ih (by simp only [] at h; omega)
    · rename_i hl
      rw [if_neg hl]
      simp only [updN]
      split
      · exact hl6
      · exact ih (by simp only [] at h; omega)
theorem rfO_lt {s : Str} {l f1 f2 j : Nat} (h : j < rfN s l f1 f2) : rfO s l f1 f2 j < s.1 := rf_o s.1 j h
theorem rfd_wf {s : Str} {l f1 f2 : Nat} {q : Bool} (hw : WfS s) (h1 : f1 < 6) (h2 : f2 < 6) (h8 : rfN s l f1 f2 ≤ 8) : WfS (rfdS s l f1 f2 q) := by
  obtain ⟨a1, a2, r, a3⟩ := id hw
  have hCb : ∀ i j, (sC (rfdS s l f1 f2 q) j).testBit i = true → i < rfN s l f1 f2 → (sC s (rfO s l f1 f2 j)).testBit (rfO s l f1 f2 i) = true ∨ (0 < j ∧ i = j - 1 ∧ rfO s l f1 f2 j = rfO s l f1 f2 (j - 1)) := fun i j h hi => by
    rw [rfd_C, Nat.testBit_or, Bool.or_eq_true] at h
    rcases h with h | h
    · rw [bset_bit, Bool.and_eq_true] at h
      exact Or.inl h.2
    · right
      split at h
      · rename_i hc
        simp only [Bool.and_eq_true, decide_eq_true_eq] at hc
        rw [Nat.testBit_two_pow] at h
        exact ⟨hc.2.1, (of_decide_eq_true h).symm, hc.2.2⟩
      · simp at h
  refine ⟨h8, fun e he => ?_, fun j => r (rfO s l f1 f2 j) * 16 + j, fun e f he hf h => ?_⟩
  · have he : e < rfN s l f1 f2 := he
    have ho := rfO_lt he
    obtain ⟨b1, b2, b3, b4, b5, b6⟩ := a2 _ ho
    have hC : sC (rfdS s l f1 f2 q) e < 2 ^ rfN s l f1 f2 := by
      rw [rfd_C]
      refine Nat.or_lt_two_pow bset_lt ?_
      split
      · exact pow_lt (by omega)
      · exact Nat.two_pow_pos _
    refine ⟨rf_l hw h1 h2 s.1 (Nat.le_refl _) e he, by rw [rfd_D]; exact b2, hC, by rw [rfd_K]; exact bset_lt, ?_, fun f hf => ?_⟩
    · rw [rfd_K, bset_bit, b5, Bool.and_false]
    · have hf : f < rfN s l f1 f2 := hf
      rw [rfd_K, rfd_K, bset_bit, bset_bit, decide_eq_true he, decide_eq_true hf, Bool.true_and, Bool.true_and]
      exact b6 _ (rfO_lt hf)
  · have he : e < rfN s l f1 f2 := he
    have hf : f < rfN s l f1 f2 := hf
    rcases hCb e f h he with h | ⟨h, rfl, h3⟩
    · have := a3 _ _ (rfO_lt he) (rfO_lt hf) h
      show r _ * 16 + e < r _ * 16 + f
      omega
    · show r _ * 16 + (f - 1) < r _ * 16 + f
      rw [h3]
      omega
theorem S_orderTwins {g : GE} {Q : Option Value → FH → Bd → Prop} {h : FH} {b : Bd} {a l f1 f2 : Nat} {w v : Int32} {L D C K O : Nat → Int32} {s : Str} (hg : 1 ≤ g.1) (hs : StrC a (nI (rfN s l f1 f2)) w v L D C K O h) (hr : RepS (rfdS s l f1 f2 false) L D C K) (h8 : rfN s l f1 f2 ≤ 8) (hw : WfS s) (ho : ∀ j, j < rfN s l f1 f2 → O j = nI (rfO s l f1 f2 j)) (hq : ∀ h' C', StrC a (nI (rfN s l f1 f2)) w v L D C' K O h' → RepS (rfdS s l f1 f2 true) L D C' K → FrO a 6 h h' → Q none h' b) : CallQ 107 g [.ref a] Q h b := by
  refine CQ_h (d := 0) _ (fun h' => ∃ C', StrC a (nI (rfN s l f1 f2)) w v L D C' K O h' ∧ RepS (rfdS s l f1 f2 true) L D C' K ∧ FrO a 6 h h') (fun _ => C_eS_orderTwins (Nat.le_of_ble_eq_true rfl)) (by omega) (fun Rr hR g' hg' => ?_) (fun h' ⟨C', q1, q2, q3⟩ => hq h' C' q1 q2 q3)
  rw [show eent 2 [.ref a] = [some (.ref a), none] from rfl]
  clear hq
  have hOl : ∀ j, j < rfN s l f1 f2 → rfO s l f1 f2 j < 8 := fun j hj => by have := rfO_lt hj; have := hw.1; omega
  simp (disch := first | omega | rfl) only [M_eS_orderTwins, x_seq, x_ist, x_lst, x_ast, x_inc, x_ic, x_lc, x_rn, x_il, x_ll, x_rl, x_add, x_sub, x_mul, x_and, x_or, x_xor, x_shl, x_shr, x_ushr, x_div, x_rem, x_ladd, x_lmul, x_land, x_lor, x_lxor, x_lshl, x_lshr, x_lushr, x_i2l, x_l2i, x_max, x_ifld, x_lfld, x_rfld, x_iald, x_zald, x_lald, x_rald, x_len, x_wt, x_scr, x_slen, x_icmp, x_if, x_cb, x_lcmp, x_nul, x_cnot, x_cand, x_cor, x_cond, x_an, x_ac, x_cV, x_cS, x_scV, x_scS, x_putI, x_putZ, x_putL, x_putR, x_opf, x_iast, x_zast, x_last, x_aast, x_opaI, x_opaL, x_sif, x_ite, x_retI, x_retZ, x_retL, x_retR, x_ret, x_pop, x_sup, lc_i, lc_r, lc_0, lc_n, lc_l, rf_s, rf_n, lI_c, lL_c, lR_c, lR_n, gO_s, gI_c, gL_c, gR_c, gI2_c, gL2_c, gR2_c, gR2_v, gR2_n, rdI_c, rdZ_c, rdL_c, rdR_c, alN_c, rdW_c, rdS_c, isK_c, vI_ex, vL_ex, vR_ex, vR_exs, vR_exn, pt_c, wrI_c, wrZ_c, wrL_c, wrR_c, opI_c, opL_c, op2I_c, op2L_c, hs_eq, hs_ne, hs_1, List.getElem?_cons_zero, List.getElem?_cons_succ, List.set_cons_zero, List.set_cons_succ, List.length_cons, List.length_nil, Nat.reduceAdd, Nat.reduceLT, lg0, lg1, lg2, lg3, lg4, lg5, lg6, lg7, lg8, lg9, lg10, lg11, lg12, lg13, lg14, lg15, lg16, lg17, lg18, lg19, lg20, ls0, ls1, ls2, ls3, ls4, ls5, ls6, ls7, ls8, ls9, ls10, ls11, ls12, ls13, ls14, ls15, ls16, ls17, ls18, ls19, ls20, lt0, lt1, lt2, lt3, lt4, lt5, lt6, lt7, lt8, lt9, lt10, lt11, lt12, lt13, lt14, lt15, lt16, lt17, lt18, lt19, lt20, eq_self, mc_8, mc_9, mc_11, mc_12, mc_13, mc_14, mc_15, mc_17, mc_18, mc_20, mc_21, mc_22, mc_23, mc_24, mc_25, mc_26, mc_27, mc_28, mc_29, mc_30, mc_31, mc_32, mc_33, mc_34, mc_35, mc_36, mc_37, mc_38, mc_39, mc_40, mc_41, mc_42, mc_43, mc_44, mc_45, mc_46, mc_47, mc_48, mc_49, mc_50, mc_51, mc_52, mc_53, mc_54, mc_55, mc_57, mc_58, mc_59, mc_60, mc_61, mc_62, mc_63, mc_65, mc_68, mc_69, mc_70, mc_71, mc_72, mc_73, mc_75, mc_76, mc_77, mc_78, mc_80, mc_81, mc_82, mc_83, mc_84, mc_85, mc_86, mc_87, mc_88, mc_89, mc_90, mc_91, mc_93, mc_94, mc_95, mc_96, mc_97, mc_98, mc_99, mc_100, mc_101, mc_103, mc_104, mc_105, mc_106, mc_107, mc_108, mc_109, mc_110, mc_111, mc_112, mc_113, mc_114, mc_115, mc_116, mc_117, mc_118, mc_120, mc_121, mc_122, mc_123, mc_124, mc_125, mc_126, mc_127, mc_128, mc_131, mc_132, mc_133, mc_134, mc_135, mc_136, mc_137, mc_138, mc_139, mc_140, mc_141, mc_142, mc_143, mc_147, mc_151, mc_152, mc_153, mc_155, mc_156, mc_157, mc_158, mc_159, mc_160, mc_161, mc_162, mc_163, mc_164, mc_165, mc_166, mc_167, mc_168, mc_169, mc_170, mc_171, mc_172, mc_173, mc_174, mc_175, mc_176, mc_177, mc_178, mc_179, mc_180, mc_181, mc_182, mc_183, mc_184, mc_185, mc_186, mc_187, mc_188, mc_189, mc_190, mc_191, mc_194, mc_195, mc_196, mc_197, mc_198, mc_199, mc_200, mc_202, mc_203, mc_204, mc_205, mc_206, mc_207, mc_208, mc_209, mc_210, mc_211, mc_212, mc_213, mc_214, mc_215, mc_216, mc_217, mc_218, mc_219, mc_220, mc_221, mc_222, mc_223, mc_224, mc_225, mc_226, mc_227, mc_228, mc_229, mc_230, mc_231, mc_232, mc_233, mc_235, mc_236, b2_01, b2_ne, nI01_0, nI01_1, iq_lt, iq_le, iq_ge, iq_gt, iq_eq, iq_ne, iq_eq0, iq_ne0, iq_lt0, iq_ge0, iq_gt0, iq_le0, d_10, d_00, decide_true, decide_false, Bool.not_true, Bool.not_false, n_bit, n_shr, n_shl, nI_add, pk_sub, pk_mul, fa_and, fa_or, fb_xorI, Nat.one_mul, true_and, and_true, oI_0, oI_1, oI_2, oI_3, oI_4, oI_5, oI_6, oI_8, oI_9, oI_12, oI_16, oI_18, oI_32, oI_40, oI_41, oI_43, oI_48, oI_54, oI_55, oI_59, oI_63, oI_64, oI_70, oI_72, oI_97, oI_102, oI_103, oI_124, oI_126, oI_256, oI_512, oI_513, oI_4096, oI_13122, oI_1000000000, oI_1431655765, oI_252645135, oI_858993459]
  refine whl_i (rfN s l f1 f2 - 1) (fun j E h' b' => j ≤ rfN s l f1 f2 - 1 ∧ E = [some (.ref a), some (.int (nI (j + 1)))] ∧ FrO a 6 h h' ∧ ∃ C', StrC a (nI (rfN s l f1 f2)) w v L D C' K O h' ∧ ∀ e, e < rfN s l f1 f2 → C' e = nI (if e ≤ j then sC (rfdS s l f1 f2 true) e else sC (rfdS s l f1 f2 false) e)) ⟨Nat.zero_le _, rfl, FrO.refl, C, hs, fun e he => ?_⟩ (fun j E h' b' hI J hJ => ?_)
  · rw [(hr e he).2.2.1]
    by_cases q : e ≤ 0
    · rw [if_pos q, rfd_Ct, decide_eq_false (by omega), Bool.false_and]
      rfl
    · rw [if_neg q]
  obtain ⟨hj, rfl, hf, C', hs', hC'⟩ := hI
  obtain ⟨h0, h1, h2, h3, h4, h5⟩ := id hs'
  simp (disch := first | omega | rfl) only [x_seq, x_ist, x_lst, x_ast, x_inc, x_ic, x_lc, x_rn, x_il, x_ll, x_rl, x_add, x_sub, x_mul, x_and, x_or, x_xor, x_shl, x_shr, x_ushr, x_div, x_rem, x_ladd, x_lmul, x_land, x_lor, x_lxor, x_lshl, x_lshr, x_lushr, x_i2l, x_l2i, x_max, x_ifld, x_lfld, x_rfld, x_iald, x_zald, x_lald, x_rald, x_len, x_wt, x_scr, x_slen, x_icmp, x_if, x_cb, x_lcmp, x_nul, x_cnot, x_cand, x_cor, x_cond, x_an, x_ac, x_cV, x_cS, x_scV, x_scS, x_putI, x_putZ, x_putL, x_putR, x_opf, x_iast, x_zast, x_last, x_aast, x_opaI, x_opaL, x_sif, x_ite, x_retI, x_retZ, x_retL, x_retR, x_ret, x_pop, x_sup, lc_i, lc_r, lc_0, lc_n, lc_l, rf_s, rf_n, lI_c, lL_c, lR_c, lR_n, gO_s, gI_c, gL_c, gR_c, gI2_c, gL2_c, gR2_c, gR2_v, gR2_n, rdI_c, rdZ_c, rdL_c, rdR_c, alN_c, rdW_c, rdS_c, isK_c, vI_ex, vL_ex, vR_ex, vR_exs, vR_exn, pt_c, wrI_c, wrZ_c, wrL_c, wrR_c, opI_c, opL_c, op2I_c, op2L_c, hs_eq, hs_ne, hs_1, List.getElem?_cons_zero, List.getElem?_cons_succ, List.set_cons_zero, List.set_cons_succ, List.length_cons, List.length_nil, Nat.reduceAdd, Nat.reduceLT, lg0, lg1, lg2, lg3, lg4, lg5, lg6, lg7, lg8, lg9, lg10, lg11, lg12, lg13, lg14, lg15, lg16, lg17, lg18, lg19, lg20, ls0, ls1, ls2, ls3, ls4, ls5, ls6, ls7, ls8, ls9, ls10, ls11, ls12, ls13, ls14, ls15, ls16, ls17, ls18, ls19, ls20, lt0, lt1, lt2, lt3, lt4, lt5, lt6, lt7, lt8, lt9, lt10, lt11, lt12, lt13, lt14, lt15, lt16, lt17, lt18, lt19, lt20, eq_self, mc_8, mc_9, mc_11, mc_12, mc_13, mc_14, mc_15, mc_17, mc_18, mc_20, mc_21, mc_22, mc_23, mc_24, mc_25, mc_26, mc_27, mc_28, mc_29, mc_30, mc_31, mc_32, mc_33, mc_34, mc_35, mc_36, mc_37, mc_38, mc_39, mc_40, mc_41, mc_42, mc_43, mc_44, mc_45, mc_46, mc_47, mc_48, mc_49, mc_50, mc_51, mc_52, mc_53, mc_54, mc_55, mc_57, mc_58, mc_59, mc_60, mc_61, mc_62, mc_63, mc_65, mc_68, mc_69, mc_70, mc_71, mc_72, mc_73, mc_75, mc_76, mc_77, mc_78, mc_80, mc_81, mc_82, mc_83, mc_84, mc_85, mc_86, mc_87, mc_88, mc_89, mc_90, mc_91, mc_93, mc_94, mc_95, mc_96, mc_97, mc_98, mc_99, mc_100, mc_101, mc_103, mc_104, mc_105, mc_106, mc_107, mc_108, mc_109, mc_110, mc_111, mc_112, mc_113, mc_114, mc_115, mc_116, mc_117, mc_118, mc_120, mc_121, mc_122, mc_123, mc_124, mc_125, mc_126, mc_127, mc_128, mc_131, mc_132, mc_133, mc_134, mc_135, mc_136, mc_137, mc_138, mc_139, mc_140, mc_141, mc_142, mc_143, mc_147, mc_151, mc_152, mc_153, mc_155, mc_156, mc_157, mc_158, mc_159, mc_160, mc_161, mc_162, mc_163, mc_164, mc_165, mc_166, mc_167, mc_168, mc_169, mc_170, mc_171, mc_172, mc_173, mc_174, mc_175, mc_176, mc_177, mc_178, mc_179, mc_180, mc_181, mc_182, mc_183, mc_184, mc_185, mc_186, mc_187, mc_188, mc_189, mc_190, mc_191, mc_194, mc_195, mc_196, mc_197, mc_198, mc_199, mc_200, mc_202, mc_203, mc_204, mc_205, mc_206, mc_207, mc_208, mc_209, mc_210, mc_211, mc_212, mc_213, mc_214, mc_215, mc_216, mc_217, mc_218, mc_219, mc_220, mc_221, mc_222, mc_223, mc_224, mc_225, mc_226, mc_227, mc_228, mc_229, mc_230, mc_231, mc_232, mc_233, mc_235, mc_236, b2_01, b2_ne, nI01_0, nI01_1, iq_lt, iq_le, iq_ge, iq_gt, iq_eq, iq_ne, iq_eq0, iq_ne0, iq_lt0, iq_ge0, iq_gt0, iq_le0, d_10, d_00, decide_true, decide_false, Bool.not_true, Bool.not_false, n_bit, n_shr, n_shl, nI_add, pk_sub, pk_mul, fa_and, fa_or, fb_xorI, Nat.one_mul, true_and, and_true, oI_0, oI_1, oI_2, oI_3, oI_4, oI_5, oI_6, oI_8, oI_9, oI_12, oI_16, oI_18, oI_32, oI_40, oI_41, oI_43, oI_48, oI_54, oI_55, oI_59, oI_63, oI_64, oI_70, oI_72, oI_97, oI_102, oI_103, oI_124, oI_126, oI_256, oI_512, oI_513, oI_4096, oI_13122, oI_1000000000, oI_1431655765, oI_252645135, oI_858993459, h0, cn_d]
  refine ⟨fun hj2 => ?_, fun hj2 => ?_⟩
  · have hJ2 := hJ (by omega)
    have o1 := ho (j + 1) (by omega)
    have o2 := ho j (by omega)
    have p1 := hOl (j + 1) (by omega)
    have p2 := hOl j (by omega)
    have c1 := hC' (j + 1) (by omega)
    rw [if_neg (by omega)] at c1
    have ct := rfd_Ct (s := s) (l := l) (f1 := f1) (f2 := f2) (j := j + 1)
    rw [decide_eq_true (show 0 < j + 1 by omega), Bool.true_and, show j + 1 - 1 = j from rfl] at ct
    have step : ∀ (h3 : FH) (C3 : Nat → Int32), StrC a (nI (rfN s l f1 f2)) w v L D C3 K O h3 → FrO a 6 h' h3 → (∀ e, e ≠ j + 1 → C3 e = C' e) → C3 (j + 1) = nI (sC (rfdS s l f1 f2 true) (j + 1)) → J [some (.ref a), some (.int (nI (j + 1 + 1)))] h3 b' := fun h3 C3 q1 q2 q3 q4 => hJ2 _ _ _ ⟨by omega, rfl, FrO.trans hf q2, C3, q1, fun e he => by
      by_cases q : e = j + 1
      · subst q; rw [q4, if_pos (Nat.le_refl _)]
      · rw [q3 e q, hC' e he]
        by_cases q5 : e ≤ j
        · rw [if_pos q5, if_pos (by omega)]
        · rw [if_neg q5, if_neg (by omega)]⟩
    simp (disch := first | omega | rfl) only [x_seq, x_ist, x_lst, x_ast, x_inc, x_ic, x_lc, x_rn, x_il, x_ll, x_rl, x_add, x_sub, x_mul, x_and, x_or, x_xor, x_shl, x_shr, x_ushr, x_div, x_rem, x_ladd, x_lmul, x_land, x_lor, x_lxor, x_lshl, x_lshr, x_lushr, x_i2l, x_l2i, x_max, x_ifld, x_lfld, x_rfld, x_iald, x_zald, x_lald, x_rald, x_len, x_wt, x_scr, x_slen, x_icmp, x_if, x_cb, x_lcmp, x_nul, x_cnot, x_cand, x_cor, x_cond, x_an, x_ac, x_cV, x_cS, x_scV, x_scS, x_putI, x_putZ, x_putL, x_putR, x_opf, x_iast, x_zast, x_last, x_aast, x_opaI, x_opaL, x_sif, x_ite, x_retI, x_retZ, x_retL, x_retR, x_ret, x_pop, x_sup, lc_i, lc_r, lc_0, lc_n, lc_l, rf_s, rf_n, lI_c, lL_c, lR_c, lR_n, gO_s, gI_c, gL_c, gR_c, gI2_c, gL2_c, gR2_c, gR2_v, gR2_n, rdI_c, rdZ_c, rdL_c, rdR_c, alN_c, rdW_c, rdS_c, isK_c, vI_ex, vL_ex, vR_ex, vR_exs, vR_exn, pt_c, wrI_c, wrZ_c, wrL_c, wrR_c, opI_c, opL_c, op2I_c, op2L_c, hs_eq, hs_ne, hs_1, List.getElem?_cons_zero, List.getElem?_cons_succ, List.set_cons_zero, List.set_cons_succ, List.length_cons, List.length_nil, Nat.reduceAdd, Nat.reduceLT, lg0, lg1, lg2, lg3, lg4, lg5, lg6, lg7, lg8, lg9, lg10, lg11, lg12, lg13, lg14, lg15, lg16, lg17, lg18, lg19, lg20, ls0, ls1, ls2, ls3, ls4, ls5, ls6, ls7, ls8, ls9, ls10, ls11, ls12, ls13, ls14, ls15, ls16, ls17, ls18, ls19, ls20, lt0, lt1, lt2, lt3, lt4, lt5, lt6, lt7, lt8, lt9, lt10, lt11, lt12, lt13, lt14, lt15, lt16, lt17, lt18, lt19, lt20, eq_self, mc_8, mc_9, mc_11, mc_12, mc_13, mc_14, mc_15, mc_17, mc_18, mc_20, mc_21, mc_22, mc_23, mc_24, mc_25, mc_26, mc_27, mc_28, mc_29, mc_30, mc_31, mc_32, mc_33, mc_34, mc_35, mc_36, mc_37, mc_38, mc_39, mc_40, mc_41, mc_42, mc_43, mc_44, mc_45, mc_46, mc_47, mc_48, mc_49, mc_50, mc_51, mc_52, mc_53, mc_54, mc_55, mc_57, mc_58, mc_59, mc_60, mc_61, mc_62, mc_63, mc_65, mc_68, mc_69, mc_70, mc_71, mc_72, mc_73, mc_75, mc_76, mc_77, mc_78, mc_80, mc_81, mc_82, mc_83, mc_84, mc_85, mc_86, mc_87, mc_88, mc_89, mc_90, mc_91, mc_93, mc_94, mc_95, mc_96, mc_97, mc_98, mc_99, mc_100, mc_101, mc_103, mc_104, mc_105, mc_106, mc_107, mc_108, mc_109, mc_110, mc_111, mc_112, mc_113, mc_114, mc_115, mc_116, mc_117, mc_118, mc_120, mc_121, mc_122, mc_123, mc_124, mc_125, mc_126, mc_127, mc_128, mc_131, mc_132, mc_133, mc_134, mc_135, mc_136, mc_137, mc_138, mc_139, mc_140, mc_141, mc_142, mc_143, mc_147, mc_151, mc_152, mc_153, mc_155, mc_156, mc_157, mc_158, mc_159, mc_160, mc_161, mc_162, mc_163, mc_164, mc_165, mc_166, mc_167, mc_168, mc_169, mc_170, mc_171, mc_172, mc_173, mc_174, mc_175, mc_176, mc_177, mc_178, mc_179, mc_180, mc_181, mc_182, mc_183, mc_184, mc_185, mc_186, mc_187, mc_188, mc_189, mc_190, mc_191, mc_194, mc_195, mc_196, mc_197, mc_198, mc_199, mc_200, mc_202, mc_203, mc_204, mc_205, mc_206, mc_207, mc_208, mc_209, mc_210, mc_211, mc_212, mc_213, mc_214, mc_215, mc_216, mc_217, mc_218, mc_219, mc_220, mc_221, mc_222, mc_223, mc_224, mc_225, mc_226, mc_227, mc_228, mc_229, mc_230, mc_231, mc_232, mc_233, mc_235, mc_236, b2_01, b2_ne, nI01_0, nI01_1, iq_lt, iq_le, iq_ge, iq_gt, iq_eq, iq_ne, iq_eq0, iq_ne0, iq_lt0, iq_ge0, iq_gt0, iq_le0, d_10, d_00, decide_true, decide_false, Bool.not_true, Bool.not_false, n_bit, n_shr, n_shl, nI_add, pk_sub, pk_mul, fa_and, fa_or, fb_xorI, Nat.one_mul, true_and, and_true, oI_0, oI_1, oI_2, oI_3, oI_4, oI_5, oI_6, oI_8, oI_9, oI_12, oI_16, oI_18, oI_32, oI_40, oI_41, oI_43, oI_48, oI_54, oI_55, oI_59, oI_63, oI_64, oI_70, oI_72, oI_97, oI_102, oI_103, oI_124, oI_126, oI_256, oI_512, oI_513, oI_4096, oI_13122, oI_1000000000, oI_1431655765, oI_252645135, oI_858993459, Nat.add_sub_cancel, h0, h3, h5, o1, o2, c1, cn_d]
    refine ⟨fun q => ?_, fun q => ?_⟩
    · rw [decide_eq_true q, if_pos rfl] at ct
      refine step _ (upd C' (j + 1) (nI (sC (rfdS s l f1 f2 false) (j + 1) ||| 2 ^ j))) (by refine ⟨?_, ?_, ?_, ?_, ?_, ?_⟩ <;> simp (disch := omega) only [hs_eq, hs_ne, h0, h1, h2, h3, h4, h5]) (by exact ⟨rfl, fun x hx => by simp (disch := omega) only [hs_ne]⟩) (fun e he => upd_2 he) (by rw [upd_1, ct])
    · rw [decide_eq_false q, if_neg (by decide)] at ct
      exact step h' C' hs' FrO.refl (fun _ _ => rfl) (by rw [c1, ct])
  · refine hR _ ⟨C', hs', fun e he => ⟨(hr e he).1, (hr e he).2.1, ?_, (hr e he).2.2.2⟩, hf⟩
    have he : e < rfN s l f1 f2 := he
    rw [hC' e he, if_pos (by omega)]
