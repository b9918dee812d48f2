/-! PARSE of the reference, pure; takes -/
def tkB (T : Nat → Nat) (n p c : Nat) : Bool := decide (p < n) && decide (T p = c)
def opK (k : Nat) : Nat := if k = 1 then 59 else if k = 2 then 124 else 43
def prs (T : Nat → Nat) (n : Nat) : Nat → Nat → Nat → List Nat → Nat × Option (List Nat) × Nat
  | 0, _, p, _ => (p, none, 0)
  | f + 1, k, p, ts =>
    if k = 0 then
      if tkB T n p 40 then match prs T n f 3 (p + 1) [] with
        | (p2, some us, c) => if tkB T n p2 41 then (p2 + 1, some us, c) else (p2, none, c)
        | (e, none, c) => (e, none, c)
      else if tkB T n p 48 then (p + 1, some [48], 1)
      else if p < n ∧ 97 ≤ T p ∧ T p ≤ 102 then (p + 1, some [T p], 1) else (p, none, 1)
    else if k ≤ 3 then match prs T n f (k - 1) p [] with
      | (p2, some us, c) => ((prs T n f (k + 3) p2 us).1, (prs T n f (k + 3) p2 us).2.1, c + (prs T n f (k + 3) p2 us).2.2)
      | (e, none, c) => (e, none, c)
    else if tkB T n p (opK (k - 3)) then match prs T n f (k - 4) (p + 1) [] with
      | (p2, some us, c) => ((prs T n f k p2 (ts ++ us ++ [opK (k - 3)])).1, (prs T n f k p2 (ts ++ us ++ [opK (k - 3)])).2.1, c + 1 + (prs T n f k p2 (ts ++ us ++ [opK (k - 3)])).2.2)
      | (e, none, c) => (e, none, c + 1)
    else (p, some ts, 0)
theorem tk_lt {T : Nat → Nat} {n p c : Nat} (h : tkB T n p c = true) : p < n ∧ T p = c := by
  unfold tkB at h
  rw [Bool.and_eq_true, decide_eq_true_eq, decide_eq_true_eq] at h
  exact h
theorem prs_pos {T : Nat → Nat} {n : Nat} : ∀ (f k p : Nat) (ts : List Nat), p ≤ n → p ≤ (prs T n f k p ts).1 ∧ (prs T n f k p ts).1 ≤ n
  | 0, k, p, ts, h => ⟨Nat.le_refl _, h⟩
  | f + 1, k, p, ts, h => by
    unfold prs
    split
    · split
      · rename_i ht
        have hlt := (tk_lt ht).1
        have ih := prs_pos (T := T) (n := n) f 3 (p + 1) [] hlt
        split
        · rename_i p2 us c he
          rw [he] at ih
          have ih : p + 1 ≤ p2 ∧ p2 ≤ n := ih
          split
          · rename_i h2
            have := (tk_lt h2).1
            exact ⟨by show p ≤ p2 + 1; omega, this⟩
          · exact ⟨by show p ≤ p2; omega, ih.2⟩
        · rename_i e c he
          rw [he] at ih
          have ih : p + 1 ≤ e ∧ e ≤ n := ih
          exact ⟨by show p ≤ e; omega, ih.2⟩
      · split
        · rename_i ht
          exact ⟨Nat.le_succ _, (tk_lt ht).1⟩
        · split
          · rename_i ht
            exact ⟨Nat.le_succ _, ht.1⟩
          · exact ⟨Nat.le_refl _, h⟩
    · split
      · have ih := prs_pos (T := T) (n := n) f (k - 1) p [] h
        split
        · rename_i p2 us c he
          rw [he] at ih
          have ih : p ≤ p2 ∧ p2 ≤ n := ih
          have ih2 := prs_pos (T := T) (n := n) f (k + 3) p2 us ih.2
          exact ⟨Nat.le_trans ih.1 ih2.1, ih2.2⟩
        · rename_i e c he
          rw [he] at ih
          exact ih
      · split
        · rename_i ht
          have hlt := (tk_lt ht).1
          have ih := prs_pos (T := T) (n := n) f (k - 4) (p + 1) [] hlt
          split
          · rename_i p2 us c he
            rw [he] at ih
            have ih : p + 1 ≤ p2 ∧ p2 ≤ n := ih
            have ih2 := prs_pos (T := T) (n := n) f k p2 (ts ++ us ++ [opK (k - 3)]) ih.2
            exact ⟨Nat.le_trans (by omega) ih2.1, ih2.2⟩
          · rename_i e c he
            rw [he] at ih
            have ih : p + 1 ≤ e ∧ e ≤ n := ih
            exact ⟨by show p ≤ e; omega, ih.2⟩
        · exact ⟨Nat.le_refl _, h⟩
def evR1 (t : Nat) (s : List Str × Bool) : List Str × Bool := if t = 48 then (empS :: s.1, s.2) else if 97 ≤ t ∧ t ≤ 102 then (oneS (t - 97) :: s.1, s.2) else match s.1 with
  | q :: p :: Y => ((if s.2 || decide (8 < p.1 + cps t p * q.1) then empS else tgS t p q) :: Y, s.2 || decide (8 < p.1 + cps t p * q.1))
  | _ => s
def evRs (ts : List Nat) (s : List Str × Bool) : List Str × Bool := ts.foldl (fun s t => evR1 t s) s
theorem evRs_app {a b : List Nat} {s : List Str × Bool} : evRs (a ++ b) s = evRs b (evRs a s) := List.foldl_append
/-- the parser's place in the object -/
def PsM (m n : Nat) (T : Nat → Nat) (I : Nat → Int32) (at_ er : Int32) (lg : Bool) (h : FH) : Prop := (∃ I', OB m I' h ∧ I' 39 = at_ ∧ I' 40 = er ∧ I' 41 = b2i lg ∧ ∀ x, x ≠ 39 → x ≠ 40 → x ≠ 41 → I' x = I x) ∧ (∃ TX, h.2 (m + 62) = some (aI 40 TX) ∧ ∀ i, i < n → TX i = nI (T i)) ∧ I 38 = nI n ∧ n ≤ 40 ∧ (∀ i, i < n → T i < 127) ∧ m + 63 ≤ h.1
def FrP (m : Nat) (h h' : FH) : Prop := h.1 ≤ h'.1 ∧ ∀ x, x < h.1 → x ≠ m → h'.2 x = h.2 x
theorem FrP.refl {m : Nat} {h : FH} : FrP m h h := ⟨Nat.le_refl _, fun _ _ _ => rfl⟩
theorem FrP.trans {m : Nat} {h h' h'' : FH} (a : FrP m h h') (b : FrP m h' h'') : FrP m h h'' := ⟨Nat.le_trans a.1 b.1, fun x hx hm => (b.2 x (by have := a.1; omega) hm).trans (a.2 x hx hm)⟩
theorem MStP.frp {m a w : Nat} {s : Str} {h h' : FH} (x : MStP a s w h) (f : FrP m h h') (h1 : m < a) (h2 : a + 6 ≤ h.1) : MStP a s w h' := by
  obtain ⟨L, D, C, K, V, ⟨s0, s1, s2, s3, s4, s5⟩, hr⟩ := x
  refine ⟨L, D, C, K, V, ⟨?_, ?_, ?_, ?_, ?_, ?_⟩, hr⟩ <;> (rw [f.2 _ (by omega) (by omega)]; assumption)
theorem R_takes {g : GE} {Q : Option Value → FH → Bd → Prop} {h : FH} {b : Bd} {m n p c : Nat} {T : Nat → Nat} {I : Nat → Int32} {lg : Bool} (hg : 1 ≤ g.1) (hM : PsM m n T I (nI p) (Int32.ofInt (-1)) lg h) (hp : p ≤ n) (hc : c < 2147483648) (hq : ∀ h', PsM m n T I (nI (if tkB T n p c then p + 1 else p)) (Int32.ofInt (-1)) lg h' → h'.1 = h.1 → (∀ x, x ≠ m → h'.2 x = h.2 x) → Q (some (.int (b2i (tkB T n p c)))) h' b) : CallQ 231 g [.ref m, .int (nI c)] Q h b := by
  refine CQ_h (d := 0) _ (fun h' => PsM m n T I (nI (if tkB T n p c then p + 1 else p)) (Int32.ofInt (-1)) lg h' ∧ h'.1 = h.1 ∧ ∀ x, x ≠ m → h'.2 x = h.2 x) (fun _ => C_mM_takes (Nat.le_of_ble_eq_true rfl)) (by omega) (fun Rr hR g' hg' => ?_) (fun h' ⟨q1, q2, q3⟩ => hq h' q1 q2 q3)
  clear hq
  rw [show eent 2 [.ref m, .int (nI c)] = [some (.ref m), some (.int (nI c))] from rfl]
  have hM0 := hM
  obtain ⟨⟨I', hO, i1, i2, i3, i4⟩, ⟨TX, ht, hT⟩, hn, h40, hT2, hm⟩ := hM
  have hO0 := hO
  unfold OB at hO
  have i38 : I' 38 = nI n := (i4 38 (by decide) (by decide) (by decide)).trans hn
  by_cases hpn : p < n
  · have e1 := hT p hpn
    have e2 := hT2 p hpn
    simp (disch := first | omega | rfl) only [M_mM_takes, x_seq, x_ist, x_lst, x_ast, x_inc, x_ic, x_lc, x_rn, x_il, x_ll, x_rl, x_add, x_sub, x_mul, x_and, x_or, x_xor, x_shl, x_shr, x_ushr, x_div, x_rem, x_ladd, x_lmul, x_land, x_lor, x_lxor, x_lshl, x_lshr, x_lushr, x_i2l, x_l2i, x_max, x_ifld, x_lfld, x_rfld, x_iald, x_zald, x_lald, x_rald, x_len, x_wt, x_scr, x_slen, x_icmp, x_if, x_cb, x_lcmp, x_nul, x_cnot, x_cand, x_cor, x_cond, x_an, x_ac, x_cV, x_cS, x_scV, x_scS, x_putI, x_putZ, x_putL, x_putR, x_opf, x_iast, x_zast, x_last, x_aast, x_opaI, x_opaL, x_sif, x_ite, x_retI, x_retZ, x_retL, x_retR, x_ret, x_pop, x_sup, lc_i, lc_r, lc_0, lc_n, lc_l, rf_s, rf_n, lI_c, lL_c, lR_c, lR_n, gO_s, gI_c, gL_c, gR_c, gI2_c, gL2_c, gR2_c, gR2_v, gR2_n, rdI_c, rdZ_c, rdL_c, rdR_c, alN_c, rdW_c, rdS_c, isK_c, vI_ex, vL_ex, vR_ex, vR_exs, vR_exn, pt_c, wrI_c, wrZ_c, wrL_c, wrR_c, opI_c, opL_c, op2I_c, op2L_c, hs_eq, hs_ne, hs_1, List.getElem?_cons_zero, List.getElem?_cons_succ, List.set_cons_zero, List.set_cons_succ, List.length_cons, List.length_nil, Nat.reduceAdd, Nat.reduceLT, lg0, lg1, lg2, lg3, lg4, lg5, lg6, lg7, lg8, lg9, lg10, lg11, lg12, lg13, lg14, lg15, lg16, lg17, lg18, lg19, lg20, ls0, ls1, ls2, ls3, ls4, ls5, ls6, ls7, ls8, ls9, ls10, ls11, ls12, ls13, ls14, ls15, ls16, ls17, ls18, ls19, ls20, lt0, lt1, lt2, lt3, lt4, lt5, lt6, lt7, lt8, lt9, lt10, lt11, lt12, lt13, lt14, lt15, lt16, lt17, lt18, lt19, lt20, eq_self, mc_8, mc_9, mc_11, mc_12, mc_13, mc_14, mc_15, mc_17, mc_18, mc_20, mc_21, mc_22, mc_23, mc_24, mc_25, mc_26, mc_27, mc_28, mc_29, mc_30, mc_31, mc_32, mc_33, mc_34, mc_35, mc_36, mc_37, mc_38, mc_39, mc_40, mc_41, mc_42, mc_43, mc_44, mc_45, mc_46, mc_47, mc_48, mc_49, mc_50, mc_51, mc_52, mc_53, mc_54, mc_55, mc_57, mc_58, mc_59, mc_60, mc_61, mc_62, mc_63, mc_65, mc_68, mc_69, mc_70, mc_71, mc_72, mc_73, mc_75, mc_76, mc_77, mc_78, mc_80, mc_81, mc_82, mc_83, mc_84, mc_85, mc_86, mc_87, mc_88, mc_89, mc_90, mc_91, mc_93, mc_94, mc_95, mc_96, mc_97, mc_98, mc_99, mc_100, mc_101, mc_103, mc_104, mc_105, mc_106, mc_107, mc_108, mc_109, mc_110, mc_111, mc_112, mc_113, mc_114, mc_115, mc_116, mc_117, mc_118, mc_120, mc_121, mc_122, mc_123, mc_124, mc_125, mc_126, mc_127, mc_128, mc_131, mc_132, mc_133, mc_134, mc_135, mc_136, mc_137, mc_138, mc_139, mc_140, mc_141, mc_142, mc_143, mc_147, mc_151, mc_152, mc_153, mc_155, mc_156, mc_157, mc_158, mc_159, mc_160, mc_161, mc_162, mc_163, mc_164, mc_165, mc_166, mc_167, mc_168, mc_169, mc_170, mc_171, mc_172, mc_173, mc_174, mc_175, mc_176, mc_177, mc_178, mc_179, mc_180, mc_181, mc_182, mc_183, mc_184, mc_185, mc_186, mc_187, mc_188, mc_189, mc_190, mc_191, mc_194, mc_195, mc_196, mc_197, mc_198, mc_199, mc_200, mc_202, mc_203, mc_204, mc_205, mc_206, mc_207, mc_208, mc_209, mc_210, mc_211, mc_212, mc_213, mc_214, mc_215, mc_216, mc_217, mc_218, mc_219, mc_220, mc_221, mc_222, mc_223, mc_224, mc_225, mc_226, mc_227, mc_228, mc_229, mc_230, mc_231, mc_232, mc_233, mc_235, mc_236, b2_01, b2_ne, nI01_0, nI01_1, iq_lt, iq_le, iq_ge, iq_gt, iq_eq, iq_ne, iq_eq0, iq_ne0, iq_lt0, iq_ge0, iq_gt0, iq_le0, d_10, d_00, decide_true, decide_false, Bool.not_true, Bool.not_false, n_bit, n_shr, n_shl, nI_add, pk_sub, pk_mul, fa_and, fa_or, fb_xorI, Nat.one_mul, true_and, and_true, oI_0, oI_1, oI_2, oI_3, oI_4, oI_5, oI_6, oI_8, oI_9, oI_12, oI_16, oI_18, oI_32, oI_40, oI_41, oI_43, oI_48, oI_54, oI_55, oI_59, oI_63, oI_64, oI_70, oI_72, oI_97, oI_102, oI_103, oI_124, oI_126, oI_256, oI_512, oI_513, oI_4096, oI_13122, oI_1000000000, oI_1431655765, oI_252645135, oI_858993459, hO, i1, i2, i38, m1_ge, cn_f, ht, e1, cn_d]
    have hdec : tkB T n p c = decide (T p = c) := by unfold tkB; rw [decide_eq_true hpn, Bool.true_and]
    rw [hdec] at hR
    refine ⟨fun q => absurd hpn (by omega), fun _ => ⟨fun q => ?_, fun q => ?_⟩⟩
    · have q : ¬ T p = c := by simpa using q
      rw [decide_eq_false q] at hR
      exact hR h ⟨hM0, rfl, fun _ _ => rfl⟩
    · have q : T p = c := by simpa using q
      rw [decide_eq_true q] at hR
      refine hR _ ⟨⟨⟨upd I' 39 (nI (p + 1)), ?_, ?_, i2, i3, fun x x1 x2 x3 => (upd_2 x1).trans (i4 x x1 x2 x3)⟩, ⟨TX, ?_, hT⟩, hn, h40, hT2, hm⟩, rfl, fun x hx => by simp (disch := omega) only [hs_ne]⟩
      · show (hset _ _ _).2 m = _
        rw [hs_eq, ← i38, ← i2]; rfl
      · exact upd_1
      · simp (disch := omega) only [hs_ne]; exact ht
  · simp (disch := first | omega | rfl) only [M_mM_takes, x_seq, x_ist, x_lst, x_ast, x_inc, x_ic, x_lc, x_rn, x_il, x_ll, x_rl, x_add, x_sub, x_mul, x_and, x_or, x_xor, x_shl, x_shr, x_ushr, x_div, x_rem, x_ladd, x_lmul, x_land, x_lor, x_lxor, x_lshl, x_lshr, x_lushr, x_i2l, x_l2i, x_max, x_ifld, x_lfld, x_rfld, x_iald, x_zald, x_lald, x_rald, x_len, x_wt, x_scr, x_slen, x_icmp, x_if, x_cb, x_lcmp, x_nul, x_cnot, x_cand, x_cor, x_cond, x_an, x_ac, x_cV, x_cS, x_scV, x_scS, x_putI, x_putZ, x_putL, x_putR, x_opf, x_iast, x_zast, x_last, x_aast, x_opaI, x_opaL, x_sif, x_ite, x_retI, x_retZ, x_retL, x_retR, x_ret, x_pop, x_sup, lc_i, lc_r, lc_0, lc_n, lc_l, rf_s, rf_n, lI_c, lL_c, lR_c, lR_n, gO_s, gI_c, gL_c, gR_c, gI2_c, gL2_c, gR2_c, gR2_v, gR2_n, rdI_c, rdZ_c, rdL_c, rdR_c, alN_c, rdW_c, rdS_c, isK_c, vI_ex, vL_ex, vR_ex, vR_exs, vR_exn, pt_c, wrI_c, wrZ_c, wrL_c, wrR_c, opI_c, opL_c, op2I_c, op2L_c, hs_eq, hs_ne, hs_1, List.getElem?_cons_zero, List.getElem?_cons_succ, List.set_cons_zero, List.set_cons_succ, List.length_cons, List.length_nil, Nat.reduceAdd, Nat.reduceLT, lg0, lg1, lg2, lg3, lg4, lg5, lg6, lg7, lg8, lg9, lg10, lg11, lg12, lg13, lg14, lg15, lg16, lg17, lg18, lg19, lg20, ls0, ls1, ls2, ls3, ls4, ls5, ls6, ls7, ls8, ls9, ls10, ls11, ls12, ls13, ls14, ls15, ls16, ls17, ls18, ls19, ls20, lt0, lt1, lt2, lt3, lt4, lt5, lt6, lt7, lt8, lt9, lt10, lt11, lt12, lt13, lt14, lt15, lt16, lt17, lt18, lt19, lt20, eq_self, mc_8, mc_9, mc_11, mc_12, mc_13, mc_14, mc_15, mc_17, mc_18, mc_20, mc_21, mc_22, mc_23, mc_24, mc_25, mc_26, mc_27, mc_28, mc_29, mc_30, mc_31, mc_32, mc_33, mc_34, mc_35, mc_36, mc_37, mc_38, mc_39, mc_40, mc_41, mc_42, mc_43, mc_44, mc_45, mc_46, mc_47, mc_48, mc_49, mc_50, mc_51, mc_52, mc_53, mc_54, mc_55, mc_57, mc_58, mc_59, mc_60, mc_61, mc_62, mc_63, mc_65, mc_68, mc_69, mc_70, mc_71, mc_72, mc_73, mc_75, mc_76, mc_77, mc_78, mc_80, mc_81, mc_82, mc_83, mc_84, mc_85, mc_86, mc_87, mc_88, mc_89, mc_90, mc_91, mc_93, mc_94, mc_95, mc_96, mc_97, mc_98, mc_99, mc_100, mc_101, mc_103, mc_104, mc_105, mc_106, mc_107, mc_108, mc_109, mc_110, mc_111, mc_112, mc_113, mc_114, mc_115, mc_116, mc_117, mc_118, mc_120, mc_121, mc_122, mc_123, mc_124, mc_125, mc_126, mc_127, mc_128, mc_131, mc_132, mc_133, mc_134, mc_135, mc_136, mc_137, mc_138, mc_139, mc_140, mc_141, mc_142, mc_143, mc_147, mc_151, mc_152, mc_153, mc_155, mc_156, mc_157, mc_158, mc_159, mc_160, mc_161, mc_162, mc_163, mc_164, mc_165, mc_166, mc_167, mc_168, mc_169, mc_170, mc_171, mc_172, mc_173, mc_174, mc_175, mc_176, mc_177, mc_178, mc_179, mc_180, mc_181, mc_182, mc_183, mc_184, mc_185, mc_186, mc_187, mc_188, mc_189, mc_190, mc_191, mc_194, mc_195, mc_196, mc_197, mc_198, mc_199, mc_200, mc_202, mc_203, mc_204, mc_205, mc_206, mc_207, mc_208, mc_209, mc_210, mc_211, mc_212, mc_213, mc_214, mc_215, mc_216, mc_217, mc_218, mc_219, mc_220, mc_221, mc_222, mc_223, mc_224, mc_225, mc_226, mc_227, mc_228, mc_229, mc_230, mc_231, mc_232, mc_233, mc_235, mc_236, b2_01, b2_ne, nI01_0, nI01_1, iq_lt, iq_le, iq_ge, iq_gt, iq_eq, iq_ne, iq_eq0, iq_ne0, iq_lt0, iq_ge0, iq_gt0, iq_le0, d_10, d_00, decide_true, decide_false, Bool.not_true, Bool.not_false, n_bit, n_shr, n_shl, nI_add, pk_sub, pk_mul, fa_and, fa_or, fb_xorI, Nat.one_mul, true_and, and_true, oI_0, oI_1, oI_2, oI_3, oI_4, oI_5, oI_6, oI_8, oI_9, oI_12, oI_16, oI_18, oI_32, oI_40, oI_41, oI_43, oI_48, oI_54, oI_55, oI_59, oI_63, oI_64, oI_70, oI_72, oI_97, oI_102, oI_103, oI_124, oI_126, oI_256, oI_512, oI_513, oI_4096, oI_13122, oI_1000000000, oI_1431655765, oI_252645135, oI_858993459, hO, i1, i2, i38, m1_ge, cn_f, cn_t, cn_d]
    have hdec : tkB T n p c = false := by unfold tkB; rw [decide_eq_false hpn, Bool.false_and]
    rw [hdec] at hR
    exact ⟨fun _ => hR h ⟨hM0, rfl, fun _ _ => rfl⟩, fun q => absurd (show n ≤ p by omega) q⟩
theorem R_takesE {g : GE} {Q : Option Value → FH → Bd → Prop} {h : FH} {b : Bd} {m n c e : Nat} {T : Nat → Nat} {I : Nat → Int32} {at_ : Int32} {lg : Bool} (hg : 1 ≤ g.1) (hM : PsM m n T I at_ (nI e) lg h) (he : e ≤ n) (hq : Q (some (.int (nI 0))) h b) : CallQ 231 g [.ref m, .int (nI c)] Q h b := by
  refine CQ_p (d := 0) _ (fun _ => C_mM_takes (Nat.le_of_ble_eq_true rfl)) (by omega) (fun Rr hR g' hg' => ?_) hq
  rw [show eent 2 [.ref m, .int (nI c)] = [some (.ref m), some (.int (nI c))] from rfl]
  obtain ⟨⟨I', hO, i1, i2, i3, i4⟩, -, hn, h40, -, -⟩ := hM
  unfold OB at hO
  simp (disch := first | omega | rfl) only [M_mM_takes, x_seq, x_ist, x_lst, x_ast, x_inc, x_ic, x_lc, x_rn, x_il, x_ll, x_rl, x_add, x_sub, x_mul, x_and, x_or, x_xor, x_shl, x_shr, x_ushr, x_div, x_rem, x_ladd, x_lmul, x_land, x_lor, x_lxor, x_lshl, x_lshr, x_lushr, x_i2l, x_l2i, x_max, x_ifld, x_lfld, x_rfld, x_iald, x_zald, x_lald, x_rald, x_len, x_wt, x_scr, x_slen, x_icmp, x_if, x_cb, x_lcmp, x_nul, x_cnot, x_cand, x_cor, x_cond, x_an, x_ac, x_cV, x_cS, x_scV, x_scS, x_putI, x_putZ, x_putL, x_putR, x_opf, x_iast, x_zast, x_last, x_aast, x_opaI, x_opaL, x_sif, x_ite, x_retI, x_retZ, x_retL, x_retR, x_ret, x_pop, x_sup, lc_i, lc_r, lc_0, lc_n, lc_l, rf_s, rf_n, lI_c, lL_c, lR_c, lR_n, gO_s, gI_c, gL_c, gR_c, gI2_c, gL2_c, gR2_c, gR2_v, gR2_n, rdI_c, rdZ_c, rdL_c, rdR_c, alN_c, rdW_c, rdS_c, isK_c, vI_ex, vL_ex, vR_ex, vR_exs, vR_exn, pt_c, wrI_c, wrZ_c, wrL_c, wrR_c, opI_c, opL_c, op2I_c, op2L_c, hs_eq, hs_ne, hs_1, List.getElem?_cons_zero, List.getElem?_cons_succ, List.set_cons_zero, List.set_cons_succ, List.length_cons, List.length_nil, Nat.reduceAdd, Nat.reduceLT, lg0, lg1, lg2, lg3, lg4, lg5, lg6, lg7, lg8, lg9, lg10, lg11, lg12, lg13, lg14, lg15, lg16, lg17, lg18, lg19, lg20, ls0, ls1, ls2, ls3, ls4, ls5, ls6, ls7, ls8, ls9, ls10, ls11, ls12, ls13, ls14, ls15, ls16, ls17, ls18, ls19, ls20, lt0, lt1, lt2, lt3, lt4, lt5, lt6, lt7, lt8, lt9, lt10, lt11, lt12, lt13, lt14, lt15, lt16, lt17, lt18, lt19, lt20, eq_self, mc_8, mc_9, mc_11, mc_12, mc_13, mc_14, mc_15, mc_17, mc_18, mc_20, mc_21, mc_22, mc_23, mc_24, mc_25, mc_26, mc_27, mc_28, mc_29, mc_30, mc_31, mc_32, mc_33, mc_34, mc_35, mc_36, mc_37, mc_38, mc_39, mc_40, mc_41, mc_42, mc_43, mc_44, mc_45, mc_46, mc_47, mc_48, mc_49, mc_50, mc_51, mc_52, mc_53, mc_54, mc_55, mc_57, mc_58, mc_59, mc_60, mc_61, mc_62, mc_63, mc_65, mc_68, mc_69, mc_70, mc_71, mc_72, mc_73, mc_75, mc_76, mc_77, mc_78, mc_80, mc_81, mc_82, mc_83, mc_84, mc_85, mc_86, mc_87, mc_88, mc_89, mc_90, mc_91, mc_93, mc_94, mc_95, mc_96, mc_97, mc_98, mc_99, mc_100, mc_101, mc_103, mc_104, mc_105, mc_106, mc_107, mc_108, mc_109, mc_110, mc_111, mc_112, mc_113, mc_114, mc_115, mc_116, mc_117, mc_118, mc_120, mc_121, mc_122, mc_123, mc_124, mc_125, mc_126, mc_127, mc_128, mc_131, mc_132, mc_133, mc_134, mc_135, mc_136, mc_137, mc_138, mc_139, mc_140, mc_141, mc_142, mc_143, mc_147, mc_151, mc_152, mc_153, mc_155, mc_156, mc_157, mc_158, mc_159, mc_160, mc_161, mc_162, mc_163, mc_164, mc_165, mc_166, mc_167, mc_168, mc_169, mc_170, mc_171, mc_172, mc_173, mc_174, mc_175, mc_176, mc_177, mc_178, mc_179, mc_180, mc_181, mc_182, mc_183, mc_184, mc_185, mc_186, mc_187, mc_188, mc_189, mc_190, mc_191, mc_194, mc_195, mc_196, mc_197, mc_198, mc_199, mc_200, mc_202, mc_203, mc_204, mc_205, mc_206, mc_207, mc_208, mc_209, mc_210, mc_211, mc_212, mc_213, mc_214, mc_215, mc_216, mc_217, mc_218, mc_219, mc_220, mc_221, mc_222, mc_223, mc_224, mc_225, mc_226, mc_227, mc_228, mc_229, mc_230, mc_231, mc_232, mc_233, mc_235, mc_236, b2_01, b2_ne, nI01_0, nI01_1, iq_lt, iq_le, iq_ge, iq_gt, iq_eq, iq_ne, iq_eq0, iq_ne0, iq_lt0, iq_ge0, iq_gt0, iq_le0, d_10, d_00, decide_true, decide_false, Bool.not_true, Bool.not_false, n_bit, n_shr, n_shl, nI_add, pk_sub, pk_mul, fa_and, fa_or, fb_xorI, Nat.one_mul, true_and, and_true, oI_0, oI_1, oI_2, oI_3, oI_4, oI_5, oI_6, oI_8, oI_9, oI_12, oI_16, oI_18, oI_32, oI_40, oI_41, oI_43, oI_48, oI_54, oI_55, oI_59, oI_63, oI_64, oI_70, oI_72, oI_97, oI_102, oI_103, oI_124, oI_126, oI_256, oI_512, oI_513, oI_4096, oI_13122, oI_1000000000, oI_1431655765, oI_252645135, oI_858993459, hO, i2, cn_t]
  exact hR
