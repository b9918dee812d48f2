/-! BISIMULATION: names, moves -/
def nmS (s : Str) (t : Nat) : Nat := fb_sm (fun e => if t.testBit e then 9 ^ sL s e else 0) s.1
def mvP (s : Str) (bs : Bool) (m t : Nat) : Bool := (bs || decide (popc t = 1)) && cfgB s (m ||| t)
def mvT (s : Str) (bs : Bool) (m : Nat) : List Nat := (subs (opn s m)).filter (mvP s bs m)
def mvC (S : Nat → Str) (c : Nat → Nat) (x t : Nat) : Nat := nmS (S (x / 256)) t * 512 + c (x / 256 * 256 + (x % 256 ||| t))
def mvs (S : Nat → Str) (bs : Bool) (c : Nat → Nat) (x : Nat) : List Nat := (mvT (S (x / 256)) bs (x % 256)).map (mvC S c x)
def cfX (S : Nat → Str) (x : Nat) : Bool := cfgB (S (x / 256)) (x % 256)
theorem pw9 {k : Nat} (h : k < 6) : 9 ^ k ≤ 59049 := Nat.pow_le_pow_right (n := 9) (by decide) (show k ≤ 5 by omega)
theorem nm_le {s : Str} (hw : WfS s) (t : Nat) : nmS s t ≤ 472392 := by
  have h1 : nmS s t ≤ s.1 * 59049 := fb_sm_bound fun e he => by
    show (if t.testBit e then 9 ^ sL s e else 0) ≤ _
    split
    · exact pw9 (hw.2.1 e he).1
    · exact Nat.zero_le _
  have h2 := hw.1
  have h3 : s.1 * 59049 ≤ 8 * 59049 := Nat.mul_le_mul_right _ h2
  omega
theorem subs_len (o : Nat) : (subs o).length ≤ 255 := by
  have h : (subs o).length ≤ ((List.range 256).filter (fun u => !decide (u = 0))).length := by
    unfold subs
    rw [List.length_reverse, ← List.countP_eq_length_filter, ← List.countP_eq_length_filter]
    refine List.countP_mono_left fun u _ q => ?_
    rw [Bool.and_eq_true] at q
    exact q.1
  have h2 : ((List.range 256).filter (fun u => !decide (u = 0))).length = 255 := by decide +kernel
  omega
/-- a walk down the parts of a set: what has been met, what is to come -/
theorem wk_split {o t i : Nat} {pr : List Nat} (ho : o < 256) (h : pr ++ wk o (256 - i) t = wk o 256 o) (ht : t ≠ 0) (hi : t + i ≤ 255) : (pr ++ [t]) ++ wk o (256 - (i + 1)) ((t - 1) &&& o) = wk o 256 o ∧ t ∈ subs o ∧ pr.length ≤ 254 := by
  rw [show 256 - i = (256 - (i + 1)) + 1 by omega, wk_s ht] at h
  have hm : t ∈ subs o := by
    rw [← wk_subs o ho, ← h]
    exact List.mem_append_right _ List.mem_cons_self
  refine ⟨by rw [List.append_assoc, ← h]; rfl, hm, ?_⟩
  have hl := congrArg List.length h
  rw [wk_subs o ho, List.length_append, List.length_cons] at hl
  have := subs_len o
  omega
theorem wk_end {o i : Nat} {pr : List Nat} (ho : o < 256) (h : pr ++ wk o (256 - i) 0 = wk o 256 o) (hi : i ≤ 255) : pr = subs o := by
  rw [show 256 - i = (256 - (i + 1)) + 1 by omega, wk_0, List.append_nil, wk_subs o ho] at h
  exact h
/-- the names of the sets of one side, the classes of all states as numbers -/
def NamP (S : Nat → Str) (NM : Nat → Int32) : Prop := ∀ i t, i < 2 → t < 2 ^ (S i).1 → NM (i * 256 + t) = nI (nmS (S i) t)
def ClsP (S : Nat → Str) (c : Nat → Nat) (CL : Nat → Int32) : Prop := ∀ x, x < 512 → cfX S x = true → CL x = nI (c x) ∧ c x < 512
theorem opn_sub {s : Str} {m t e : Nat} (h : t &&& opn s m = t) (he : t.testBit e = true) : (opn s m).testBit e = true := and_of_wk h e he
theorem or_div {m t i : Nat} (hm : m < 256) (ht : t < 256) : (i * 256 + (m ||| t)) / 256 = i ∧ (i * 256 + (m ||| t)) % 256 = (m ||| t) := by
  have : m ||| t < 256 := Nat.or_lt_two_pow (n := 8) hm ht
  omega
theorem S_gather {g : GE} {Q : Option Value → FH → Bd → Prop} {h : FH} {b : Bd} {q ca na x : Nat} {mc : Int32} {bs : Bool} {S : Nat → Str} {P wv vv c : Nat → Nat} {Sf : Nat → Option Nat} {NM CL NX MV RW RE FC SE CC FV SV : Nat → Int32} (hg : 2 ≤ g.1) (hB : BisO q ca na mc Sf NM CL NX MV RW RE FC SE CC FV SV h) (hSf : ∀ i, i < 2 → Sf i = some (P i)) (hP : ∀ i, i < 2 → SpW (P i) (S i) (wv i) (vv i) h) (hd : ∀ i, i < 2 → P i + 13 ≤ q ∨ q + 13 ≤ P i) (hW : ∀ i, i < 2 → WfS (S i)) (hN : NamP S NM) (hC : ClsP S c CL) (hx : x < 512) (hcf : cfX S x = true) (hq : ∀ h' mc' MV', BisO q ca na (nI mc') Sf NM CL NX MV' RW RE FC SE CC FV SV h' → Srt MV' mc' (mvs S bs c x) → mc' ≤ (mvT (S (x / 256)) bs (x % 256)).length → mc' ≤ 255 → FrO q 13 h h' → Q none h' b) : CallQ 81 g [.ref q, .int (nI x), .int (b2i bs)] Q h b := by
  refine CQ_h (d := 1) _ (fun h' => ∃ mc' MV', BisO q ca na (nI mc') Sf NM CL NX MV' RW RE FC SE CC FV SV h' ∧ Srt MV' mc' (mvs S bs c x) ∧ mc' ≤ (mvT (S (x / 256)) bs (x % 256)).length ∧ mc' ≤ 255 ∧ FrO q 13 h h') (fun _ => C_eB_gatherMoves (Nat.le_of_ble_eq_true rfl)) (by omega) (fun Rr hR g' hg' => ?_) (fun h' ⟨mc', MV', q1, q2, q3, q4, q5⟩ => hq h' mc' MV' q1 q2 q3 q4 q5)
  rw [show eent 8 [.ref q, .int (nI x), .int (b2i bs)] = [some (.ref q), some (.int (nI x)), some (.int (b2i bs)), none, none, none, none, none] from rfl]
  obtain ⟨h0, h1, h2, h3, h4, h5, h6, h7, h8, h9, h10, h11, h12, h13⟩ := id hB
  have hi2 : x / 256 < 2 := by omega
  have hm2 : x % 256 < 256 := by omega
  have hSfx := hSf _ hi2
  have hPx := hP _ hi2
  have hdx := hd _ hi2
  have hWx := hW _ hi2
  have hNx := hN (x / 256)
  have hcx : cfgB (S (x / 256)) (x % 256) = true := hcf
  have hCx : ∀ t, t < 256 → cfgB (S (x / 256)) (x % 256 ||| t) = true → CL (x / 256 * 256 + (x % 256 ||| t)) = nI (c (x / 256 * 256 + (x % 256 ||| t))) ∧ c (x / 256 * 256 + (x % 256 ||| t)) < 512 := fun t ht hc => by
    have o := or_div (i := x / 256) hm2 ht
    refine hC _ (by omega) ?_
    unfold cfX
    rw [o.1, o.2]
    exact hc
  simp only [mvs] at hR
  have hmc : ∀ t, mvC S c x t = nmS (S (x / 256)) t * 512 + c (x / 256 * 256 + (x % 256 ||| t)) := fun t => rfl
  generalize hpq : P (x / 256) = p at *
  generalize S (x / 256) = s at *
  generalize wv (x / 256) = w at *
  generalize vv (x / 256) = v at *
  obtain ⟨L, D, C, K, O, Ps, X, F, G, W, T, -, -, ho, hV⟩ := hPx
  obtain ⟨k0, k1, k2, k3, k4, k5, k6⟩ := id ho
  have hG := (hV.2 _ hm2).2
  rw [hcx, if_pos rfl] at hG
  have ho2 : opn s (x % 256) < 256 := Nat.lt_of_lt_of_le bset_lt (p8 hWx.1)
  have hon : opn s (x % 256) < 2 ^ s.1 := bset_lt
  simp (disch := first | omega | rfl) only [M_eB_gatherMoves, x_seq, x_ist, x_lst, x_ast, x_inc, x_ic, x_lc, x_rn, x_il, x_ll, x_rl, x_add, x_sub, x_mul, x_and, x_or, x_xor, x_shl, x_shr, x_ushr, x_div, x_rem, x_ladd, x_lmul, x_land, x_lor, x_lxor, x_lshl, x_lshr, x_lushr, x_i2l, x_l2i, x_max, x_ifld, x_lfld, x_rfld, x_iald, x_zald, x_lald, x_rald, x_len, x_wt, x_scr, x_slen, x_icmp, x_if, x_cb, x_lcmp, x_nul, x_cnot, x_cand, x_cor, x_cond, x_an, x_ac, x_cV, x_cS, x_scV, x_scS, x_putI, x_putZ, x_putL, x_putR, x_opf, x_iast, x_zast, x_last, x_aast, x_opaI, x_opaL, x_sif, x_ite, x_retI, x_retZ, x_retL, x_retR, x_ret, x_pop, x_sup, lc_i, lc_r, lc_0, lc_n, lc_l, rf_s, rf_n, lI_c, lL_c, lR_c, lR_n, gO_s, gI_c, gL_c, gR_c, gI2_c, gL2_c, gR2_c, gR2_v, gR2_n, rdI_c, rdZ_c, rdL_c, rdR_c, alN_c, rdW_c, rdS_c, isK_c, vI_ex, vL_ex, vR_ex, vR_exs, vR_exn, pt_c, wrI_c, wrZ_c, wrL_c, wrR_c, opI_c, opL_c, op2I_c, op2L_c, hs_eq, hs_ne, hs_1, List.getElem?_cons_zero, List.getElem?_cons_succ, List.set_cons_zero, List.set_cons_succ, List.length_cons, List.length_nil, Nat.reduceAdd, Nat.reduceLT, lg0, lg1, lg2, lg3, lg4, lg5, lg6, lg7, lg8, lg9, lg10, lg11, lg12, lg13, lg14, lg15, lg16, lg17, lg18, lg19, lg20, ls0, ls1, ls2, ls3, ls4, ls5, ls6, ls7, ls8, ls9, ls10, ls11, ls12, ls13, ls14, ls15, ls16, ls17, ls18, ls19, ls20, lt0, lt1, lt2, lt3, lt4, lt5, lt6, lt7, lt8, lt9, lt10, lt11, lt12, lt13, lt14, lt15, lt16, lt17, lt18, lt19, lt20, eq_self, mc_8, mc_9, mc_11, mc_12, mc_13, mc_14, mc_15, mc_17, mc_18, mc_20, mc_21, mc_22, mc_23, mc_24, mc_25, mc_26, mc_27, mc_28, mc_29, mc_30, mc_31, mc_32, mc_33, mc_34, mc_35, mc_36, mc_37, mc_38, mc_39, mc_40, mc_41, mc_42, mc_43, mc_44, mc_45, mc_46, mc_47, mc_48, mc_49, mc_50, mc_51, mc_52, mc_53, mc_54, mc_55, mc_57, mc_58, mc_59, mc_60, mc_61, mc_62, mc_63, mc_65, mc_68, mc_69, mc_70, mc_71, mc_72, mc_73, mc_75, mc_76, mc_77, mc_78, mc_80, mc_81, mc_82, mc_83, mc_84, mc_85, mc_86, mc_87, mc_88, mc_89, mc_90, mc_91, mc_93, mc_94, mc_95, mc_96, mc_97, mc_98, mc_99, mc_100, mc_101, mc_103, mc_104, mc_105, mc_106, mc_107, mc_108, mc_109, mc_110, mc_111, mc_112, mc_113, mc_114, mc_115, mc_116, mc_117, mc_118, mc_120, mc_121, mc_122, mc_123, mc_124, mc_125, mc_126, mc_127, mc_128, mc_131, mc_132, mc_133, mc_134, mc_135, mc_136, mc_137, mc_138, mc_139, mc_140, mc_141, mc_142, mc_143, mc_147, mc_151, mc_152, mc_153, mc_155, mc_156, mc_157, mc_158, mc_159, mc_160, mc_161, mc_162, mc_163, mc_164, mc_165, mc_166, mc_167, mc_168, mc_169, mc_170, mc_171, mc_172, mc_173, mc_174, mc_175, mc_176, mc_177, mc_178, mc_179, mc_180, mc_181, mc_182, mc_183, mc_184, mc_185, mc_186, mc_187, mc_188, mc_189, mc_190, mc_191, mc_194, mc_195, mc_196, mc_197, mc_198, mc_199, mc_200, mc_202, mc_203, mc_204, mc_205, mc_206, mc_207, mc_208, mc_209, mc_210, mc_211, mc_212, mc_213, mc_214, mc_215, mc_216, mc_217, mc_218, mc_219, mc_220, mc_221, mc_222, mc_223, mc_224, mc_225, mc_226, mc_227, mc_228, mc_229, mc_230, mc_231, mc_232, mc_233, mc_235, mc_236, b2_01, b2_ne, nI01_0, nI01_1, iq_lt, iq_le, iq_ge, iq_gt, iq_eq, iq_ne, iq_eq0, iq_ne0, iq_lt0, iq_ge0, iq_gt0, iq_le0, d_10, d_00, decide_true, decide_false, Bool.not_true, Bool.not_false, n_bit, n_shr, n_shl, nI_add, pk_sub, pk_mul, fa_and, fa_or, fb_xorI, Nat.one_mul, true_and, and_true, oI_0, oI_1, oI_2, oI_3, oI_4, oI_5, oI_6, oI_8, oI_9, oI_12, oI_16, oI_18, oI_32, oI_40, oI_41, oI_43, oI_48, oI_54, oI_55, oI_59, oI_63, oI_64, oI_70, oI_72, oI_97, oI_102, oI_103, oI_124, oI_126, oI_256, oI_512, oI_513, oI_4096, oI_13122, oI_1000000000, oI_1431655765, oI_252645135, oI_858993459, rdR_o, rdR_a, pk_div, nI_ne0, not_false_eq_true, rm_c, h0, h1, hSfx, k0, k4, hG]
  refine whl_i 256 (fun i E h' b' => FrO q 13 h h' ∧ ∃ t pr mc' MV', E = [some (.ref q), some (.int (nI x)), some (.int (b2i bs)), some (.ref p), some (.int (nI (x / 256 * 256))), some (.int (nI (x % 256))), some (.int (nI (opn s (x % 256)))), some (.int (nI t))] ∧ t + i ≤ 255 ∧ t &&& opn s (x % 256) = t ∧ pr ++ wk (opn s (x % 256)) (256 - i) t = wk (opn s (x % 256)) 256 (opn s (x % 256)) ∧ BisO q ca na (nI mc') Sf NM CL NX MV' RW RE FC SE CC FV SV h' ∧ Srt MV' mc' ((pr.filter (mvP s bs (x % 256))).map (mvC S c x)) ∧ mc' ≤ (pr.filter (mvP s bs (x % 256))).length) ?_ (fun i E h' b' hI J hJ => ?_)
  · exact ⟨(by exact ⟨rfl, fun x hx => by simp (disch := omega) only [hs_ne]⟩), opn s (x % 256), [], 0, MV, rfl, by omega, Nat.and_self _, rfl, (by refine ⟨?_, ?_, ?_, ?_, ?_, ?_, ?_, ?_, ?_, ?_, ?_, ?_, ?_, h13⟩ <;> simp (disch := omega) only [hs_eq, hs_ne, h0, h1, h2, h3, h4, h5, h6, h7, h8, h9, h10, h11, h12]), Srt.nil, Nat.zero_le _⟩
  obtain ⟨hf, t, pr, mc', MV', rfl, ht, hto, hpr, hB', hs, hml⟩ := hI
  obtain ⟨h0, h1, h2, h3, h4, h5, h6, h7, h8, h9, h10, h11, h12, -⟩ := id hB'
  obtain ⟨k0, k1, k2, k3, k4, k5, k6⟩ := id (ho.frame hf hdx)
  simp (disch := first | omega | rfl) only [x_seq, x_ist, x_lst, x_ast, x_inc, x_ic, x_lc, x_rn, x_il, x_ll, x_rl, x_add, x_sub, x_mul, x_and, x_or, x_xor, x_shl, x_shr, x_ushr, x_div, x_rem, x_ladd, x_lmul, x_land, x_lor, x_lxor, x_lshl, x_lshr, x_lushr, x_i2l, x_l2i, x_max, x_ifld, x_lfld, x_rfld, x_iald, x_zald, x_lald, x_rald, x_len, x_wt, x_scr, x_slen, x_icmp, x_if, x_cb, x_lcmp, x_nul, x_cnot, x_cand, x_cor, x_cond, x_an, x_ac, x_cV, x_cS, x_scV, x_scS, x_putI, x_putZ, x_putL, x_putR, x_opf, x_iast, x_zast, x_last, x_aast, x_opaI, x_opaL, x_sif, x_ite, x_retI, x_retZ, x_retL, x_retR, x_ret, x_pop, x_sup, lc_i, lc_r, lc_0, lc_n, lc_l, rf_s, rf_n, lI_c, lL_c, lR_c, lR_n, gO_s, gI_c, gL_c, gR_c, gI2_c, gL2_c, gR2_c, gR2_v, gR2_n, rdI_c, rdZ_c, rdL_c, rdR_c, alN_c, rdW_c, rdS_c, isK_c, vI_ex, vL_ex, vR_ex, vR_exs, vR_exn, pt_c, wrI_c, wrZ_c, wrL_c, wrR_c, opI_c, opL_c, op2I_c, op2L_c, hs_eq, hs_ne, hs_1, List.getElem?_cons_zero, List.getElem?_cons_succ, List.set_cons_zero, List.set_cons_succ, List.length_cons, List.length_nil, Nat.reduceAdd, Nat.reduceLT, lg0, lg1, lg2, lg3, lg4, lg5, lg6, lg7, lg8, lg9, lg10, lg11, lg12, lg13, lg14, lg15, lg16, lg17, lg18, lg19, lg20, ls0, ls1, ls2, ls3, ls4, ls5, ls6, ls7, ls8, ls9, ls10, ls11, ls12, ls13, ls14, ls15, ls16, ls17, ls18, ls19, ls20, lt0, lt1, lt2, lt3, lt4, lt5, lt6, lt7, lt8, lt9, lt10, lt11, lt12, lt13, lt14, lt15, lt16, lt17, lt18, lt19, lt20, eq_self, mc_8, mc_9, mc_11, mc_12, mc_13, mc_14, mc_15, mc_17, mc_18, mc_20, mc_21, mc_22, mc_23, mc_24, mc_25, mc_26, mc_27, mc_28, mc_29, mc_30, mc_31, mc_32, mc_33, mc_34, mc_35, mc_36, mc_37, mc_38, mc_39, mc_40, mc_41, mc_42, mc_43, mc_44, mc_45, mc_46, mc_47, mc_48, mc_49, mc_50, mc_51, mc_52, mc_53, mc_54, mc_55, mc_57, mc_58, mc_59, mc_60, mc_61, mc_62, mc_63, mc_65, mc_68, mc_69, mc_70, mc_71, mc_72, mc_73, mc_75, mc_76, mc_77, mc_78, mc_80, mc_81, mc_82, mc_83, mc_84, mc_85, mc_86, mc_87, mc_88, mc_89, mc_90, mc_91, mc_93, mc_94, mc_95, mc_96, mc_97, mc_98, mc_99, mc_100, mc_101, mc_103, mc_104, mc_105, mc_106, mc_107, mc_108, mc_109, mc_110, mc_111, mc_112, mc_113, mc_114, mc_115, mc_116, mc_117, mc_118, mc_120, mc_121, mc_122, mc_123, mc_124, mc_125, mc_126, mc_127, mc_128, mc_131, mc_132, mc_133, mc_134, mc_135, mc_136, mc_137, mc_138, mc_139, mc_140, mc_141, mc_142, mc_143, mc_147, mc_151, mc_152, mc_153, mc_155, mc_156, mc_157, mc_158, mc_159, mc_160, mc_161, mc_162, mc_163, mc_164, mc_165, mc_166, mc_167, mc_168, mc_169, mc_170, mc_171, mc_172, mc_173, mc_174, mc_175, mc_176, mc_177, mc_178, mc_179, mc_180, mc_181, mc_182, mc_183, mc_184, mc_185, mc_186, mc_187, mc_188, mc_189, mc_190, mc_191, mc_194, mc_195, mc_196, mc_197, mc_198, mc_199, mc_200, mc_202, mc_203, mc_204, mc_205, mc_206, mc_207, mc_208, mc_209, mc_210, mc_211, mc_212, mc_213, mc_214, mc_215, mc_216, mc_217, mc_218, mc_219, mc_220, mc_221, mc_222, mc_223, mc_224, mc_225, mc_226, mc_227, mc_228, mc_229, mc_230, mc_231, mc_232, mc_233, mc_235, mc_236, b2_01, b2_ne, nI01_0, nI01_1, iq_lt, iq_le, iq_ge, iq_gt, iq_eq, iq_ne, iq_eq0, iq_ne0, iq_lt0, iq_ge0, iq_gt0, iq_le0, d_10, d_00, decide_true, decide_false, Bool.not_true, Bool.not_false, n_bit, n_shr, n_shl, nI_add, pk_sub, pk_mul, fa_and, fa_or, fb_xorI, Nat.one_mul, true_and, and_true, oI_0, oI_1, oI_2, oI_3, oI_4, oI_5, oI_6, oI_8, oI_9, oI_12, oI_16, oI_18, oI_32, oI_40, oI_41, oI_43, oI_48, oI_54, oI_55, oI_59, oI_63, oI_64, oI_70, oI_72, oI_97, oI_102, oI_103, oI_124, oI_126, oI_256, oI_512, oI_513, oI_4096, oI_13122, oI_1000000000, oI_1431655765, oI_252645135, oI_858993459, cn_d]
  refine ⟨fun ht0 => ?_, fun ht0 => ?_⟩
  · obtain ⟨n1, n2, n3⟩ := wk_split ho2 hpr (by omega) ht
    have hle := and_sub_le (t := t) (o := opn s (x % 256))
    have hpl := List.length_filter_le (mvP s bs (x % 256)) pr
    have ht2 : t < 2 ^ s.1 := Nat.lt_of_le_of_lt (by rw [← hto]; exact Nat.and_le_right) hon
    have hor : x % 256 ||| t < 256 := Nat.or_lt_two_pow (n := 8) hm2 (show t < 256 by omega)
    have hF := (hV.2 _ hor).1
    have hNt := hNx t hi2 ht2
    have hnm := nm_le hWx t
    have no : mvP s bs (x % 256) t = false → J [some (.ref q), some (.int (nI x)), some (.int (b2i bs)), some (.ref p), some (.int (nI (x / 256 * 256))), some (.int (nI (x % 256))), some (.int (nI (opn s (x % 256)))), some (.int (nI ((t - 1) &&& opn s (x % 256))))] h' b' := fun e => hJ (by omega) _ _ _ ⟨hf, _, pr ++ [t], mc', MV', rfl, by omega, and_and_self, n1, hB', by rw [List.filter_append, List.filter_cons_of_neg (by rw [e]; decide), List.filter_nil, List.append_nil]; exact hs, by rw [List.filter_append, List.filter_cons_of_neg (by rw [e]; decide), List.filter_nil, List.append_nil]; exact hml⟩
    have yes : mvP s bs (x % 256) t = true → ∀ h'' mc'' MV'', BisO q ca na (nI mc'') Sf NM CL NX MV'' RW RE FC SE CC FV SV h'' → Srt MV'' mc'' (mvC S c x t :: (pr.filter (mvP s bs (x % 256))).map (mvC S c x)) → mc'' ≤ mc' + 1 → FrO q 13 h' h'' → J [some (.ref q), some (.int (nI x)), some (.int (b2i bs)), some (.ref p), some (.int (nI (x / 256 * 256))), some (.int (nI (x % 256))), some (.int (nI (opn s (x % 256)))), some (.int (nI ((t - 1) &&& opn s (x % 256))))] h'' b' := fun e h'' mc'' MV'' B' s' l' f' => hJ (by omega) _ _ _ ⟨FrO.trans hf f', _, pr ++ [t], mc'', MV'', rfl, by omega, and_and_self, n1, B', by
        rw [List.filter_append, List.filter_cons_of_pos e, List.filter_nil, List.map_append]
        refine s'.cong fun z => ?_
        simp only [List.mem_cons, List.mem_append, List.map_cons, List.map_nil, List.not_mem_nil, or_false]
        exact Or.comm, by rw [List.filter_append, List.filter_cons_of_pos e, List.filter_nil, List.length_append]; show mc'' ≤ _ + 1; omega⟩
    clear hJ hq
    have fin : mvP s bs (x % 256) t = true → CallQ 82 g' [.ref q, .int (nI (nmS s t * 512 + c (x / 256 * 256 + (x % 256 ||| t))))] (fun v h b => v = none ∧ J [some (.ref q), some (.int (nI x)), some (.int (b2i bs)), some (.ref p), some (.int (nI (x / 256 * 256))), some (.int (nI (x % 256))), some (.int (nI (opn s (x % 256)))), some (.int (nI ((t - 1) &&& opn s (x % 256))))] h b) h' b' := fun e => by
      have hcc : cfgB s (x % 256 ||| t) = true := by
        unfold mvP at e
        rw [Bool.and_eq_true] at e
        exact e.2
      have hcl := hCx t (by omega) hcc
      rw [← hmc]
      exact S_insert (by omega) hB' hs (by omega) (by rw [hmc]; omega) (fun h'' mc'' MV'' q1 q2 q3 q4 => ⟨rfl, yes e h'' mc'' MV'' q1 q2 q3 q4⟩)
    have hcl2 : cfgB s (x % 256 ||| t) = true → CL (x / 256 * 256 + (x % 256 ||| t)) = nI (c (x / 256 * 256 + (x % 256 ||| t))) := fun e => (hCx t (by omega) e).1
    have hxx : x / 256 * 256 ≤ 256 := by omega
    unfold mvP at no fin
    cases hb1 : bs <;> cases hb2 : decide (popc t = 1) <;> cases hb3 : cfgB s (x % 256 ||| t)
    all_goals
      subst hb1
      rw [hb2, hb3] at no fin
      have hpp := popc_le t
      repeat (first | refine S_bitCount (by omega) (by omega) ?_ | simp (disch := first | omega | rfl | assumption) only [x_seq, x_ist, x_lst, x_ast, x_inc, x_ic, x_lc, x_rn, x_il, x_ll, x_rl, x_add, x_sub, x_mul, x_and, x_or, x_xor, x_shl, x_shr, x_ushr, x_div, x_rem, x_ladd, x_lmul, x_land, x_lor, x_lxor, x_lshl, x_lshr, x_lushr, x_i2l, x_l2i, x_max, x_ifld, x_lfld, x_rfld, x_iald, x_zald, x_lald, x_rald, x_len, x_wt, x_scr, x_slen, x_icmp, x_if, x_cb, x_lcmp, x_nul, x_cnot, x_cand, x_cor, x_cond, x_an, x_ac, x_cV, x_cS, x_scV, x_scS, x_putI, x_putZ, x_putL, x_putR, x_opf, x_iast, x_zast, x_last, x_aast, x_opaI, x_opaL, x_sif, x_ite, x_retI, x_retZ, x_retL, x_retR, x_ret, x_pop, x_sup, lc_i, lc_r, lc_0, lc_n, lc_l, rf_s, rf_n, lI_c, lL_c, lR_c, lR_n, gO_s, gI_c, gL_c, gR_c, gI2_c, gL2_c, gR2_c, gR2_v, gR2_n, rdI_c, rdZ_c, rdL_c, rdR_c, alN_c, rdW_c, rdS_c, isK_c, vI_ex, vL_ex, vR_ex, vR_exs, vR_exn, pt_c, wrI_c, wrZ_c, wrL_c, wrR_c, opI_c, opL_c, op2I_c, op2L_c, hs_eq, hs_ne, hs_1, List.getElem?_cons_zero, List.getElem?_cons_succ, List.set_cons_zero, List.set_cons_succ, List.length_cons, List.length_nil, Nat.reduceAdd, Nat.reduceLT, lg0, lg1, lg2, lg3, lg4, lg5, lg6, lg7, lg8, lg9, lg10, lg11, lg12, lg13, lg14, lg15, lg16, lg17, lg18, lg19, lg20, ls0, ls1, ls2, ls3, ls4, ls5, ls6, ls7, ls8, ls9, ls10, ls11, ls12, ls13, ls14, ls15, ls16, ls17, ls18, ls19, ls20, lt0, lt1, lt2, lt3, lt4, lt5, lt6, lt7, lt8, lt9, lt10, lt11, lt12, lt13, lt14, lt15, lt16, lt17, lt18, lt19, lt20, eq_self, mc_8, mc_9, mc_11, mc_12, mc_13, mc_14, mc_15, mc_17, mc_18, mc_20, mc_21, mc_22, mc_23, mc_24, mc_25, mc_26, mc_27, mc_28, mc_29, mc_30, mc_31, mc_32, mc_33, mc_34, mc_35, mc_36, mc_37, mc_38, mc_39, mc_40, mc_41, mc_42, mc_43, mc_44, mc_45, mc_46, mc_47, mc_48, mc_49, mc_50, mc_51, mc_52, mc_53, mc_54, mc_55, mc_57, mc_58, mc_59, mc_60, mc_61, mc_62, mc_63, mc_65, mc_68, mc_69, mc_70, mc_71, mc_72, mc_73, mc_75, mc_76, mc_77, mc_78, mc_80, mc_81, mc_82, mc_83, mc_84, mc_85, mc_86, mc_87, mc_88, mc_89, mc_90, mc_91, mc_93, mc_94, mc_95, mc_96, mc_97, mc_98, mc_99, mc_100, mc_101, mc_103, mc_104, mc_105, mc_106, mc_107, mc_108, mc_109, mc_110, mc_111, mc_112, mc_113, mc_114, mc_115, mc_116, mc_117, mc_118, mc_120, mc_121, mc_122, mc_123, mc_124, mc_125, mc_126, mc_127, mc_128, mc_131, mc_132, mc_133, mc_134, mc_135, mc_136, mc_137, mc_138, mc_139, mc_140, mc_141, mc_142, mc_143, mc_147, mc_151, mc_152, mc_153, mc_155, mc_156, mc_157, mc_158, mc_159, mc_160, mc_161, mc_162, mc_163, mc_164, mc_165, mc_166, mc_167, mc_168, mc_169, mc_170, mc_171, mc_172, mc_173, mc_174, mc_175, mc_176, mc_177, mc_178, mc_179, mc_180, mc_181, mc_182, mc_183, mc_184, mc_185, mc_186, mc_187, mc_188, mc_189, mc_190, mc_191, mc_194, mc_195, mc_196, mc_197, mc_198, mc_199, mc_200, mc_202, mc_203, mc_204, mc_205, mc_206, mc_207, mc_208, mc_209, mc_210, mc_211, mc_212, mc_213, mc_214, mc_215, mc_216, mc_217, mc_218, mc_219, mc_220, mc_221, mc_222, mc_223, mc_224, mc_225, mc_226, mc_227, mc_228, mc_229, mc_230, mc_231, mc_232, mc_233, mc_235, mc_236, b2_01, b2_ne, nI01_0, nI01_1, iq_lt, iq_le, iq_ge, iq_gt, iq_eq, iq_ne, iq_eq0, iq_ne0, iq_lt0, iq_ge0, iq_gt0, iq_le0, d_10, d_00, decide_true, decide_false, Bool.not_true, Bool.not_false, n_bit, n_shr, n_shl, nI_add, pk_sub, pk_mul, fa_and, fa_or, fb_xorI, Nat.one_mul, true_and, and_true, oI_0, oI_1, oI_2, oI_3, oI_4, oI_5, oI_6, oI_8, oI_9, oI_12, oI_16, oI_18, oI_32, oI_40, oI_41, oI_43, oI_48, oI_54, oI_55, oI_59, oI_63, oI_64, oI_70, oI_72, oI_97, oI_102, oI_103, oI_124, oI_126, oI_256, oI_512, oI_513, oI_4096, oI_13122, oI_1000000000, oI_1431655765, oI_252645135, oI_858993459, h0, h1, h2, h3, k0, k3, hF, hNt, hb2, hb3, hcl2, cn_t, cn_f, b2_t, b2_f])
      first | exact no rfl | exact fin rfl
  · have : t = 0 := by omega
    subst this
    have hpe := wk_end ho2 hpr (by omega)
    subst hpe
    have hl : mc' ≤ 255 := Nat.le_trans hml (Nat.le_trans (List.length_filter_le _ _) (subs_len _))
    exact hR _ ⟨mc', MV', hB', hs, hml, hl, hf⟩
