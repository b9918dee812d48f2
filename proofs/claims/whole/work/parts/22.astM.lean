/-! the methods, as statements (by j2l.py out of the sources); K_: their bytecode is that statement's; C_: their contract out of what the statement does -/
/-- method 144: EventStructuresModel.<init>()V -/
def M_mM_init : ST := s_seq s_sup
 (s_seq (s_putR 10 0 (r_loc 0) (r_iniR (r_iniR (r_anew 9 (i_const 2)) 0 9 (r_new 9 145 a_nil)) 1 9 (r_new 9 145 a_nil)))
 (s_seq (s_putR 10 1 (r_loc 0) (r_iniR (r_iniR (r_anew 9 (i_const 2)) 0 9 (r_new 9 145 a_nil)) 1 9 (r_new 9 145 a_nil)))
 (s_seq (s_putR 10 3 (r_loc 0) (r_newa .int (i_const 256)))
 (s_seq (s_putR 10 4 (r_loc 0) (r_newa .int (i_const 513)))
 (s_seq (s_putR 10 5 (r_loc 0) (r_newa .int (i_const 13122)))
 (s_seq (s_putR 10 6 (r_loc 0) (r_newa .int (i_const 13122)))
 (s_seq (s_putR 10 7 (r_loc 0) (r_newa .int (i_const 512)))
 (s_seq (s_putR 10 8 (r_loc 0) (r_newa .int (i_const 512)))
 (s_seq (s_putR 10 9 (r_loc 0) (r_newa .int (i_const 512)))
 (s_seq (s_putR 10 13 (r_loc 0) (r_iniR (r_iniR (r_anew 8 (i_const 2)) 0 8 (r_new 8 146 a_nil)) 1 8 (r_new 8 146 a_nil)))
 (s_seq (s_putR 10 14 (r_loc 0) (r_newa .long (i_const 8)))
 (s_seq (s_putR 10 15 (r_loc 0) (r_newa .int (i_const 8)))
 (s_seq (s_putR 10 19 (r_loc 0) (r_newa .int (i_const 6)))
 (s_seq (s_putR 10 20 (r_loc 0) (r_newa .int (i_const 6)))
 (s_seq (s_putR 10 21 (r_loc 0) (r_newa .int (i_const 6)))
 (s_seq (s_putR 10 25 (r_loc 0) (r_newa .int (i_const 6)))
 (s_seq (s_putR 10 26 (r_loc 0) (r_newa .int (i_const 6)))
 (s_seq (s_putR 10 27 (r_loc 0) (r_newa .int (i_const 6)))
 (s_seq (s_putR 10 28 (r_loc 0) (r_newa .int (i_const 54)))
 (s_seq (s_putR 10 29 (r_loc 0) (r_newa .int (i_const 54)))
 (s_seq (s_putR 10 32 (r_loc 0) (r_newa .int (i_const 8)))
 (s_seq (s_putR 10 33 (r_loc 0) (r_newa .long (i_const 8)))
 (s_seq (s_putR 10 34 (r_loc 0) (r_new 9 145 a_nil))
 (s_seq (s_putR 10 35 (r_loc 0) (r_newa .int (i_const 6)))
 (s_seq (s_putR 10 37 (r_loc 0) (r_newa .int (i_const 40)))
 s_ret)))))))))))))))))))))))))
theorem O_mM_init : OKS M_mM_init := OK_seq OK_sup (OK_seq (OK_putR (OK_rloc _) (OK_iniR (OK_iniR (OK_anew (OK_const _)) (OK_new OK_anil)) (OK_new OK_anil))) (OK_seq (OK_putR (OK_rloc _) (OK_iniR (OK_iniR (OK_anew (OK_const _)) (OK_new OK_anil)) (OK_new OK_anil))) (OK_seq (OK_putR (OK_rloc _) (OK_newa (OK_const _))) (OK_seq (OK_putR (OK_rloc _) (OK_newa (OK_const _))) (OK_seq (OK_putR (OK_rloc _) (OK_newa (OK_const _))) (OK_seq (OK_putR (OK_rloc _) (OK_newa (OK_const _))) (OK_seq (OK_putR (OK_rloc _) (OK_newa (OK_const _))) (OK_seq (OK_putR (OK_rloc _) (OK_newa (OK_const _))) (OK_seq (OK_putR (OK_rloc _) (OK_newa (OK_const _))) (OK_seq (OK_putR (OK_rloc _) (OK_iniR (OK_iniR (OK_anew (OK_const _)) (OK_new OK_anil)) (OK_new OK_anil))) (OK_seq (OK_putR (OK_rloc _) (OK_newa (OK_const _))) (OK_seq (OK_putR (OK_rloc _) (OK_newa (OK_const _))) (OK_seq (OK_putR (OK_rloc _) (OK_newa (OK_const _))) (OK_seq (OK_putR (OK_rloc _) (OK_newa (OK_const _))) (OK_seq (OK_putR (OK_rloc _) (OK_newa (OK_const _))) (OK_seq (OK_putR (OK_rloc _) (OK_newa (OK_const _))) (OK_seq (OK_putR (OK_rloc _) (OK_newa (OK_const _))) (OK_seq (OK_putR (OK_rloc _) (OK_newa (OK_const _))) (OK_seq (OK_putR (OK_rloc _) (OK_newa (OK_const _))) (OK_seq (OK_putR (OK_rloc _) (OK_newa (OK_const _))) (OK_seq (OK_putR (OK_rloc _) (OK_newa (OK_const _))) (OK_seq (OK_putR (OK_rloc _) (OK_newa (OK_const _))) (OK_seq (OK_putR (OK_rloc _) (OK_new OK_anil)) (OK_seq (OK_putR (OK_rloc _) (OK_newa (OK_const _))) (OK_seq (OK_putR (OK_rloc _) (OK_newa (OK_const _))) OK_ret)))))))))))))))))))))))))
theorem K_mM_init : M_mM_init.1 (10, (kini 2), prog_10_method_1_code, none, 1) 0 = some (275, false, []) := by decide +kernel
theorem C_mM_init {d mc ms : Nat} {av : List Value} {h : FH} {Rr : Option Value → FH → Prop} (hl : (lg_sl av).length ≤ 1) (body : ∀ g : GE, g.1 = d → M_mM_init.2 g (fun _ _ _ => False) Rr (eent 1 av) h (mc, ms)) : Call 144 d av h mc ms Rr := call_of2 (k := 144) (own := 10) ((mtb_3 (i := 24) (by decide)).trans rfl) (by decide +kernel) rfl O_mM_init K_mM_init hl body
/-- method 147: EventStructuresModel.addEvent(III)I -/
def M_mM_addEvent : ST := s_seq (s_if (c_not (c_b (e_cS Value.int 148 (aI1 (i_loc 1) a_nil)))) (s_retI (i_const (-1))))
 (s_seq (s_if (c_or (c_not (c_b (e_cS Value.int 150 (aI1 (i_loc 2) a_nil)))) (c_not (c_b (e_cS Value.int 149 (aI1 (i_loc 3) (aI1 (i_const 0) (aI1 (i_const 1000000000) a_nil))))))) (s_retI (i_const (-2))))
 (s_seq (s_ast 4 (r_ald (r_fld 10 0 (r_loc 0)) (i_loc 1)))
 (s_seq (s_if (c_icmp .eq (i_fld 9 0 (r_loc 4)) (i_const 8)) (s_retI (i_const (-3))))
 (s_seq (s_cV 151 (r_loc 4) (aI1 (i_loc 2) (aI1 (i_loc 3) (aI1 (i_const 0) a_nil))))
 (s_seq (s_putI 9 5 (r_loc 4) (i_const 0))
 (s_retI (i_sub (i_fld 9 0 (r_loc 4)) (i_const 1))))))))
theorem O_mM_addEvent : OKS M_mM_addEvent := OK_seq (OK_sif (OK_not (OK_if (OK_cS (OK_aI (OK_iloc _) OK_anil)))) (OK_retI (OK_const _))) (OK_seq (OK_sif (OK_cor (OK_not (OK_if (OK_cS (OK_aI (OK_iloc _) OK_anil)))) (OK_not (OK_if (OK_cS (OK_aI (OK_iloc _) (OK_aI (OK_const _) (OK_aI (OK_const _) OK_anil))))))) (OK_retI (OK_const _))) (OK_seq (OK_ast (OK_rald (OK_rfld (OK_rloc _)) (OK_iloc _))) (OK_seq (OK_sif (OK_icmp (OK_ifld (OK_rloc _)) (OK_const _)) (OK_retI (OK_const _))) (OK_seq (OK_scV (OK_rloc _) (OK_aI (OK_iloc _) (OK_aI (OK_iloc _) (OK_aI (OK_const _) OK_anil)))) (OK_seq (OK_putI (OK_rloc _) (OK_const _)) (OK_retI (OK_sub (OK_ifld (OK_rloc _)) (OK_const _))))))))
theorem K_mM_addEvent : M_mM_addEvent.1 (10, (kini 1), prog_10_method_7_code, some (.int), 5) 0 = some (72, false, []) := by decide +kernel
theorem C_mM_addEvent {d mc ms : Nat} {av : List Value} {h : FH} {Rr : Option Value → FH → Prop} (hl : (lg_sl av).length ≤ 5) (body : ∀ g : GE, g.1 = d → M_mM_addEvent.2 g (fun _ _ _ => False) Rr (eent 5 av) h (mc, ms)) : Call 147 d av h mc ms Rr := call_of2 (k := 147) (own := 10) ((mtb_3 (i := 27) (by decide)).trans rfl) (by decide +kernel) rfl O_mM_addEvent K_mM_addEvent hl body
/-- method 148: EventStructuresModel.isStructure(I)Z -/
def M_mM_isStructure : ST := s_retZ (e_cS Value.int 149 (aI1 (i_loc 0) (aI1 (i_const 0) (aI1 (i_const 1) a_nil))))
theorem O_mM_isStructure : OKS M_mM_isStructure := OK_retZ (OK_cS (OK_aI (OK_iloc _) (OK_aI (OK_const _) (OK_aI (OK_const _) OK_anil))))
theorem K_mM_isStructure : M_mM_isStructure.1 (10, (kini 0), prog_10_method_3_code, some (.boolean), 1) 0 = some (7, false, []) := by decide +kernel
theorem C_mM_isStructure {d mc ms : Nat} {av : List Value} {h : FH} {Rr : Option Value → FH → Prop} (hl : (lg_sl av).length ≤ 1) (body : ∀ g : GE, g.1 = d → M_mM_isStructure.2 g (fun _ _ _ => False) Rr (eent 1 av) h (mc, ms)) : Call 148 d av h mc ms Rr := call_of2 (k := 148) (own := 10) ((mtb_3 (i := 28) (by decide)).trans rfl) (by decide +kernel) rfl O_mM_isStructure K_mM_isStructure hl body
/-- method 149: EventStructuresModel.in(III)Z -/
def M_mM_in : ST := s_retZ (e_cond (c_and (c_icmp .ge (i_loc 0) (i_loc 1)) (c_icmp .le (i_loc 0) (i_loc 2))) (i_const 1) (i_const 0))
theorem O_mM_in : OKS M_mM_in := OK_retZ (OK_econd (OK_cand (OK_icmp (OK_iloc _) (OK_iloc _)) (OK_icmp (OK_iloc _) (OK_iloc _))) (OK_const _) (OK_const _))
theorem K_mM_in : M_mM_in.1 (10, (kini 0), prog_10_method_2_code, some (.boolean), 3) 0 = some (16, false, []) := by decide +kernel
theorem C_mM_in {d mc ms : Nat} {av : List Value} {h : FH} {Rr : Option Value → FH → Prop} (hl : (lg_sl av).length ≤ 3) (body : ∀ g : GE, g.1 = d → M_mM_in.2 g (fun _ _ _ => False) Rr (eent 3 av) h (mc, ms)) : Call 149 d av h mc ms Rr := call_of2 (k := 149) (own := 10) ((mtb_3 (i := 29) (by decide)).trans rfl) (by decide +kernel) rfl O_mM_in K_mM_in hl body
/-- method 150: EventStructuresModel.isLabel(I)Z -/
def M_mM_isLabel : ST := s_retZ (e_cS Value.int 149 (aI1 (i_loc 0) (aI1 (i_const 0) (aI1 (i_const 5) a_nil))))
theorem O_mM_isLabel : OKS M_mM_isLabel := OK_retZ (OK_cS (OK_aI (OK_iloc _) (OK_aI (OK_const _) (OK_aI (OK_const _) OK_anil))))
theorem K_mM_isLabel : M_mM_isLabel.1 (10, (kini 0), prog_10_method_4_code, some (.boolean), 1) 0 = some (7, false, []) := by decide +kernel
theorem C_mM_isLabel {d mc ms : Nat} {av : List Value} {h : FH} {Rr : Option Value → FH → Prop} (hl : (lg_sl av).length ≤ 1) (body : ∀ g : GE, g.1 = d → M_mM_isLabel.2 g (fun _ _ _ => False) Rr (eent 1 av) h (mc, ms)) : Call 150 d av h mc ms Rr := call_of2 (k := 150) (own := 10) ((mtb_3 (i := 30) (by decide)).trans rfl) (by decide +kernel) rfl O_mM_isLabel K_mM_isLabel hl body
/-- method 152: EventStructuresModel.removeEvent(II)I -/
def M_mM_removeEvent : ST := s_seq (s_if (c_not (c_b (e_cV Value.int 153 (r_loc 0) (aI1 (i_loc 1) (aI1 (i_loc 2) a_nil))))) (s_retI (i_const (-1))))
 (s_seq (s_ast 3 (r_ald (r_fld 10 0 (r_loc 0)) (i_loc 1)))
 (s_seq (s_opf 9 0 .isub (fun x y => x - y) (r_loc 3) (i_const 1))
 (s_seq (s_seq (s_ist 4 (i_loc 2))
 (s_whl (c_icmp .lt (i_loc 4) (i_fld 9 0 (r_loc 3))) (s_seq (s_seq (s_iast (r_fld 9 1 (r_loc 3)) (i_loc 4) (i_ald (r_fld 9 1 (r_loc 3)) (i_add (i_loc 4) (i_const 1))))
 (s_seq (s_iast (r_fld 9 2 (r_loc 3)) (i_loc 4) (i_ald (r_fld 9 2 (r_loc 3)) (i_add (i_loc 4) (i_const 1))))
 (s_seq (s_iast (r_fld 9 3 (r_loc 3)) (i_loc 4) (i_ald (r_fld 9 3 (r_loc 3)) (i_add (i_loc 4) (i_const 1))))
 (s_iast (r_fld 9 4 (r_loc 3)) (i_loc 4) (i_ald (r_fld 9 4 (r_loc 3)) (i_add (i_loc 4) (i_const 1)))))))
 (s_inc 4 1))))
 (s_seq (s_seq (s_ist 4 (i_const 0))
 (s_whl (c_icmp .lt (i_loc 4) (i_fld 9 0 (r_loc 3))) (s_seq (s_seq (s_iast (r_fld 9 3 (r_loc 3)) (i_loc 4) (e_cS Value.int 154 (aI1 (i_ald (r_fld 9 3 (r_loc 3)) (i_loc 4)) (aI1 (i_loc 2) a_nil))))
 (s_iast (r_fld 9 4 (r_loc 3)) (i_loc 4) (e_cS Value.int 154 (aI1 (i_ald (r_fld 9 4 (r_loc 3)) (i_loc 4)) (aI1 (i_loc 2) a_nil)))))
 (s_inc 4 1))))
 (s_seq (s_putI 9 5 (r_loc 3) (i_const 0))
 (s_retI (i_fld 9 0 (r_loc 3))))))))
theorem O_mM_removeEvent : OKS M_mM_removeEvent := OK_seq (OK_sif (OK_not (OK_if (OK_cV (OK_rloc _) (OK_aI (OK_iloc _) (OK_aI (OK_iloc _) OK_anil))))) (OK_retI (OK_const _))) (OK_seq (OK_ast (OK_rald (OK_rfld (OK_rloc _)) (OK_iloc _))) (OK_seq (OK_opf (by simp) (fun K pc env st h bd x y X hd k => J_isub X hd k) (OK_rloc _) (OK_const _)) (OK_seq (OK_seq (OK_ist (OK_iloc _)) (OK_whl (OK_icmp (OK_iloc _) (OK_ifld (OK_rloc _))) (OK_seq (OK_seq (OK_siast (OK_rfld (OK_rloc _)) (OK_iloc _) (OK_iald (OK_rfld (OK_rloc _)) (OK_add (OK_iloc _) (OK_const _)))) (OK_seq (OK_siast (OK_rfld (OK_rloc _)) (OK_iloc _) (OK_iald (OK_rfld (OK_rloc _)) (OK_add (OK_iloc _) (OK_const _)))) (OK_seq (OK_siast (OK_rfld (OK_rloc _)) (OK_iloc _) (OK_iald (OK_rfld (OK_rloc _)) (OK_add (OK_iloc _) (OK_const _)))) (OK_siast (OK_rfld (OK_rloc _)) (OK_iloc _) (OK_iald (OK_rfld (OK_rloc _)) (OK_add (OK_iloc _) (OK_const _))))))) OK_inc))) (OK_seq (OK_seq (OK_ist (OK_const _)) (OK_whl (OK_icmp (OK_iloc _) (OK_ifld (OK_rloc _))) (OK_seq (OK_seq (OK_siast (OK_rfld (OK_rloc _)) (OK_iloc _) (OK_cS (OK_aI (OK_iald (OK_rfld (OK_rloc _)) (OK_iloc _)) (OK_aI (OK_iloc _) OK_anil)))) (OK_siast (OK_rfld (OK_rloc _)) (OK_iloc _) (OK_cS (OK_aI (OK_iald (OK_rfld (OK_rloc _)) (OK_iloc _)) (OK_aI (OK_iloc _) OK_anil))))) OK_inc))) (OK_seq (OK_putI (OK_rloc _) (OK_const _)) (OK_retI (OK_ifld (OK_rloc _))))))))
theorem K_mM_removeEvent : M_mM_removeEvent.1 (10, (kini 1), prog_10_method_9_code, some (.int), 5) 0 = some (174, false, []) := by decide +kernel
theorem C_mM_removeEvent {d mc ms : Nat} {av : List Value} {h : FH} {Rr : Option Value → FH → Prop} (hl : (lg_sl av).length ≤ 5) (body : ∀ g : GE, g.1 = d → M_mM_removeEvent.2 g (fun _ _ _ => False) Rr (eent 5 av) h (mc, ms)) : Call 152 d av h mc ms Rr := call_of2 (k := 152) (own := 10) ((mtb_3 (i := 32) (by decide)).trans rfl) (by decide +kernel) rfl O_mM_removeEvent K_mM_removeEvent hl body
/-- method 153: EventStructuresModel.isEvent(II)Z -/
def M_mM_isEvent : ST := s_retZ (e_cond (c_and (c_b (e_cS Value.int 148 (aI1 (i_loc 1) a_nil))) (c_b (e_cS Value.int 149 (aI1 (i_loc 2) (aI1 (i_const 0) (aI1 (i_sub (i_fld 9 0 (r_ald (r_fld 10 0 (r_loc 0)) (i_loc 1))) (i_const 1)) a_nil)))))) (i_const 1) (i_const 0))
theorem O_mM_isEvent : OKS M_mM_isEvent := OK_retZ (OK_econd (OK_cand (OK_if (OK_cS (OK_aI (OK_iloc _) OK_anil))) (OK_if (OK_cS (OK_aI (OK_iloc _) (OK_aI (OK_const _) (OK_aI (OK_sub (OK_ifld (OK_rald (OK_rfld (OK_rloc _)) (OK_iloc _))) (OK_const _)) OK_anil)))))) (OK_const _) (OK_const _))
theorem K_mM_isEvent : M_mM_isEvent.1 (10, (kini 1), prog_10_method_5_code, some (.boolean), 3) 0 = some (32, false, []) := by decide +kernel
theorem C_mM_isEvent {d mc ms : Nat} {av : List Value} {h : FH} {Rr : Option Value → FH → Prop} (hl : (lg_sl av).length ≤ 3) (body : ∀ g : GE, g.1 = d → M_mM_isEvent.2 g (fun _ _ _ => False) Rr (eent 3 av) h (mc, ms)) : Call 153 d av h mc ms Rr := call_of2 (k := 153) (own := 10) ((mtb_3 (i := 33) (by decide)).trans rfl) (by decide +kernel) rfl O_mM_isEvent K_mM_isEvent hl body
/-- method 154: EventStructuresModel.without(II)I -/
def M_mM_without : ST := s_seq (s_ist 2 (i_sub (i_shl (i_const 1) (i_loc 1)) (i_const 1)))
 (s_retI (i_or (i_and (i_loc 0) (i_loc 2)) (i_and (i_shr (i_loc 0) (i_const 1)) (i_xor (i_loc 2) (i_const (-1))))))
theorem O_mM_without : OKS M_mM_without := OK_seq (OK_ist (OK_sub (OK_shl (OK_const _) (OK_iloc _)) (OK_const _))) (OK_retI (OK_or (OK_and (OK_iloc _) (OK_iloc _)) (OK_and (OK_shr (OK_iloc _) (OK_const _)) (OK_xor (OK_iloc _) (OK_const _)))))
theorem K_mM_without : M_mM_without.1 (10, (kini 0), prog_10_method_8_code, some (.int), 3) 0 = some (18, false, []) := by decide +kernel
theorem C_mM_without {d mc ms : Nat} {av : List Value} {h : FH} {Rr : Option Value → FH → Prop} (hl : (lg_sl av).length ≤ 3) (body : ∀ g : GE, g.1 = d → M_mM_without.2 g (fun _ _ _ => False) Rr (eent 3 av) h (mc, ms)) : Call 154 d av h mc ms Rr := call_of2 (k := 154) (own := 10) ((mtb_3 (i := 34) (by decide)).trans rfl) (by decide +kernel) rfl O_mM_without K_mM_without hl body
/-- method 155: EventStructuresModel.addCause(III)I -/
def M_mM_addCause : ST := s_seq (s_if (c_or (c_not (c_b (e_cV Value.int 153 (r_loc 0) (aI1 (i_loc 1) (aI1 (i_loc 2) a_nil))))) (c_not (c_b (e_cV Value.int 153 (r_loc 0) (aI1 (i_loc 1) (aI1 (i_loc 3) a_nil)))))) (s_retI (i_const (-1))))
 (s_seq (s_ast 4 (r_ald (r_fld 10 0 (r_loc 0)) (i_loc 1)))
 (s_seq (s_if (c_or (c_icmp .eq (i_loc 2) (i_loc 3)) (c_b (e_cV Value.int 156 (r_loc 4) (aI1 (i_loc 3) (aI1 (i_loc 2) a_nil))))) (s_retI (i_const (-4))))
 (s_seq (s_ist 5 (e_cond (c_if .eq (i_and (i_shr (i_ald (r_fld 9 3 (r_loc 4)) (i_loc 3)) (i_loc 2)) (i_const 1))) (i_const 1) (i_const 0)))
 (s_seq (s_opaI .ior (fun x y => x ||| y) (r_fld 9 3 (r_loc 4)) (i_loc 3) (i_shl (i_const 1) (i_loc 2)))
 (s_seq (s_putI 9 5 (r_loc 4) (i_const 0))
 (s_retI (i_loc 5)))))))
theorem O_mM_addCause : OKS M_mM_addCause := OK_seq (OK_sif (OK_cor (OK_not (OK_if (OK_cV (OK_rloc _) (OK_aI (OK_iloc _) (OK_aI (OK_iloc _) OK_anil))))) (OK_not (OK_if (OK_cV (OK_rloc _) (OK_aI (OK_iloc _) (OK_aI (OK_iloc _) OK_anil)))))) (OK_retI (OK_const _))) (OK_seq (OK_ast (OK_rald (OK_rfld (OK_rloc _)) (OK_iloc _))) (OK_seq (OK_sif (OK_cor (OK_icmp (OK_iloc _) (OK_iloc _)) (OK_if (OK_cV (OK_rloc _) (OK_aI (OK_iloc _) (OK_aI (OK_iloc _) OK_anil))))) (OK_retI (OK_const _))) (OK_seq (OK_ist (OK_econd (OK_if (OK_and (OK_shr (OK_iald (OK_rfld (OK_rloc _)) (OK_iloc _)) (OK_iloc _)) (OK_const _))) (OK_const _) (OK_const _))) (OK_seq (OK_opaI (by simp) (fun K pc env st h bd x y X hd k => J_ior X hd k) (OK_rfld (OK_rloc _)) (OK_iloc _) (OK_shl (OK_const _) (OK_iloc _))) (OK_seq (OK_putI (OK_rloc _) (OK_const _)) (OK_retI (OK_iloc _)))))))
theorem K_mM_addCause : M_mM_addCause.1 (10, (kini 1), prog_10_method_10_code, some (.int), 6) 0 = some (89, false, []) := by decide +kernel
theorem C_mM_addCause {d mc ms : Nat} {av : List Value} {h : FH} {Rr : Option Value → FH → Prop} (hl : (lg_sl av).length ≤ 6) (body : ∀ g : GE, g.1 = d → M_mM_addCause.2 g (fun _ _ _ => False) Rr (eent 6 av) h (mc, ms)) : Call 155 d av h mc ms Rr := call_of2 (k := 155) (own := 10) ((mtb_3 (i := 35) (by decide)).trans rfl) (by decide +kernel) rfl O_mM_addCause K_mM_addCause hl body
/-- method 158: EventStructuresModel.addConflict(III)I -/
def M_mM_addConflict : ST := s_seq (s_if (c_or (c_not (c_b (e_cV Value.int 153 (r_loc 0) (aI1 (i_loc 1) (aI1 (i_loc 2) a_nil))))) (c_not (c_b (e_cV Value.int 153 (r_loc 0) (aI1 (i_loc 1) (aI1 (i_loc 3) a_nil)))))) (s_retI (i_const (-1))))
 (s_seq (s_if (c_icmp .eq (i_loc 2) (i_loc 3)) (s_retI (i_const (-2))))
 (s_seq (s_ast 4 (r_ald (r_fld 10 0 (r_loc 0)) (i_loc 1)))
 (s_seq (s_ist 5 (e_cond (c_if .eq (i_and (i_shr (i_ald (r_fld 9 4 (r_loc 4)) (i_loc 2)) (i_loc 3)) (i_const 1))) (i_const 1) (i_const 0)))
 (s_seq (s_cV 159 (r_loc 4) (aI1 (i_loc 2) (aI1 (i_loc 3) a_nil)))
 (s_seq (s_putI 9 5 (r_loc 4) (i_const 0))
 (s_retI (i_loc 5)))))))
theorem O_mM_addConflict : OKS M_mM_addConflict := OK_seq (OK_sif (OK_cor (OK_not (OK_if (OK_cV (OK_rloc _) (OK_aI (OK_iloc _) (OK_aI (OK_iloc _) OK_anil))))) (OK_not (OK_if (OK_cV (OK_rloc _) (OK_aI (OK_iloc _) (OK_aI (OK_iloc _) OK_anil)))))) (OK_retI (OK_const _))) (OK_seq (OK_sif (OK_icmp (OK_iloc _) (OK_iloc _)) (OK_retI (OK_const _))) (OK_seq (OK_ast (OK_rald (OK_rfld (OK_rloc _)) (OK_iloc _))) (OK_seq (OK_ist (OK_econd (OK_if (OK_and (OK_shr (OK_iald (OK_rfld (OK_rloc _)) (OK_iloc _)) (OK_iloc _)) (OK_const _))) (OK_const _) (OK_const _))) (OK_seq (OK_scV (OK_rloc _) (OK_aI (OK_iloc _) (OK_aI (OK_iloc _) OK_anil))) (OK_seq (OK_putI (OK_rloc _) (OK_const _)) (OK_retI (OK_iloc _)))))))
theorem K_mM_addConflict : M_mM_addConflict.1 (10, (kini 1), prog_10_method_11_code, some (.int), 6) 0 = some (73, false, []) := by decide +kernel
theorem C_mM_addConflict {d mc ms : Nat} {av : List Value} {h : FH} {Rr : Option Value → FH → Prop} (hl : (lg_sl av).length ≤ 6) (body : ∀ g : GE, g.1 = d → M_mM_addConflict.2 g (fun _ _ _ => False) Rr (eent 6 av) h (mc, ms)) : Call 158 d av h mc ms Rr := call_of2 (k := 158) (own := 10) ((mtb_3 (i := 38) (by decide)).trans rfl) (by decide +kernel) rfl O_mM_addConflict K_mM_addConflict hl body
/-- method 160: EventStructuresModel.setLabel(III)I -/
def M_mM_setLabel : ST := s_seq (s_if (c_not (c_b (e_cV Value.int 153 (r_loc 0) (aI1 (i_loc 1) (aI1 (i_loc 2) a_nil))))) (s_retI (i_const (-1))))
 (s_seq (s_if (c_not (c_b (e_cS Value.int 150 (aI1 (i_loc 3) a_nil)))) (s_retI (i_const (-2))))
 (s_seq (s_ast 4 (r_ald (r_fld 10 0 (r_loc 0)) (i_loc 1)))
 (s_seq (s_ist 5 (i_ald (r_fld 9 1 (r_loc 4)) (i_loc 2)))
 (s_seq (s_iast (r_fld 9 1 (r_loc 4)) (i_loc 2) (i_loc 3))
 (s_seq (s_putI 9 5 (r_loc 4) (i_const 0))
 (s_retI (i_loc 5)))))))
theorem O_mM_setLabel : OKS M_mM_setLabel := OK_seq (OK_sif (OK_not (OK_if (OK_cV (OK_rloc _) (OK_aI (OK_iloc _) (OK_aI (OK_iloc _) OK_anil))))) (OK_retI (OK_const _))) (OK_seq (OK_sif (OK_not (OK_if (OK_cS (OK_aI (OK_iloc _) OK_anil)))) (OK_retI (OK_const _))) (OK_seq (OK_ast (OK_rald (OK_rfld (OK_rloc _)) (OK_iloc _))) (OK_seq (OK_ist (OK_iald (OK_rfld (OK_rloc _)) (OK_iloc _))) (OK_seq (OK_siast (OK_rfld (OK_rloc _)) (OK_iloc _) (OK_iloc _)) (OK_seq (OK_putI (OK_rloc _) (OK_const _)) (OK_retI (OK_iloc _)))))))
theorem K_mM_setLabel : M_mM_setLabel.1 (10, (kini 1), prog_10_method_12_code, some (.int), 6) 0 = some (55, false, []) := by decide +kernel
theorem C_mM_setLabel {d mc ms : Nat} {av : List Value} {h : FH} {Rr : Option Value → FH → Prop} (hl : (lg_sl av).length ≤ 6) (body : ∀ g : GE, g.1 = d → M_mM_setLabel.2 g (fun _ _ _ => False) Rr (eent 6 av) h (mc, ms)) : Call 160 d av h mc ms Rr := call_of2 (k := 160) (own := 10) ((mtb_4 (i := 0) (by decide)).trans rfl) (by decide +kernel) rfl O_mM_setLabel K_mM_setLabel hl body
/-- method 161: EventStructuresModel.clear(I)I -/
def M_mM_clear : ST := s_seq (s_if (c_not (c_b (e_cS Value.int 148 (aI1 (i_loc 1) a_nil)))) (s_retI (i_const (-1))))
 (s_seq (s_ist 2 (i_fld 9 0 (r_ald (r_fld 10 0 (r_loc 0)) (i_loc 1))))
 (s_seq (s_putI 9 0 (r_ald (r_fld 10 0 (r_loc 0)) (i_loc 1)) (i_const 0))
 (s_seq (s_putI 9 5 (r_ald (r_fld 10 0 (r_loc 0)) (i_loc 1)) (i_const 0))
 (s_retI (i_loc 2)))))
theorem O_mM_clear : OKS M_mM_clear := OK_seq (OK_sif (OK_not (OK_if (OK_cS (OK_aI (OK_iloc _) OK_anil)))) (OK_retI (OK_const _))) (OK_seq (OK_ist (OK_ifld (OK_rald (OK_rfld (OK_rloc _)) (OK_iloc _)))) (OK_seq (OK_putI (OK_rald (OK_rfld (OK_rloc _)) (OK_iloc _)) (OK_const _)) (OK_seq (OK_putI (OK_rald (OK_rfld (OK_rloc _)) (OK_iloc _)) (OK_const _)) (OK_retI (OK_iloc _)))))
theorem K_mM_clear : M_mM_clear.1 (10, (kini 1), prog_10_method_13_code, some (.int), 3) 0 = some (41, false, []) := by decide +kernel
theorem C_mM_clear {d mc ms : Nat} {av : List Value} {h : FH} {Rr : Option Value → FH → Prop} (hl : (lg_sl av).length ≤ 3) (body : ∀ g : GE, g.1 = d → M_mM_clear.2 g (fun _ _ _ => False) Rr (eent 3 av) h (mc, ms)) : Call 161 d av h mc ms Rr := call_of2 (k := 161) (own := 10) ((mtb_4 (i := 1) (by decide)).trans rfl) (by decide +kernel) rfl O_mM_clear K_mM_clear hl body
/-- method 162: EventStructuresModel.copy(II)I -/
def M_mM_copy : ST := s_seq (s_if (c_or (c_not (c_b (e_cS Value.int 148 (aI1 (i_loc 1) a_nil)))) (c_not (c_b (e_cS Value.int 148 (aI1 (i_loc 2) a_nil))))) (s_retI (i_const (-1))))
 (s_seq (s_cV 163 (r_ald (r_fld 10 0 (r_loc 0)) (i_loc 2)) (aR1 (r_ald (r_fld 10 0 (r_loc 0)) (i_loc 1)) a_nil))
 (s_seq (s_putI 9 5 (r_ald (r_fld 10 0 (r_loc 0)) (i_loc 2)) (i_const 0))
 (s_retI (i_fld 9 0 (r_ald (r_fld 10 0 (r_loc 0)) (i_loc 2))))))
theorem O_mM_copy : OKS M_mM_copy := OK_seq (OK_sif (OK_cor (OK_not (OK_if (OK_cS (OK_aI (OK_iloc _) OK_anil)))) (OK_not (OK_if (OK_cS (OK_aI (OK_iloc _) OK_anil))))) (OK_retI (OK_const _))) (OK_seq (OK_scV (OK_rald (OK_rfld (OK_rloc _)) (OK_iloc _)) (OK_aR (OK_rald (OK_rfld (OK_rloc _)) (OK_iloc _)) OK_anil)) (OK_seq (OK_putI (OK_rald (OK_rfld (OK_rloc _)) (OK_iloc _)) (OK_const _)) (OK_retI (OK_ifld (OK_rald (OK_rfld (OK_rloc _)) (OK_iloc _))))))
theorem K_mM_copy : M_mM_copy.1 (10, (kini 1), prog_10_method_14_code, some (.int), 3) 0 = some (51, false, []) := by decide +kernel
theorem C_mM_copy {d mc ms : Nat} {av : List Value} {h : FH} {Rr : Option Value → FH → Prop} (hl : (lg_sl av).length ≤ 3) (body : ∀ g : GE, g.1 = d → M_mM_copy.2 g (fun _ _ _ => False) Rr (eent 3 av) h (mc, ms)) : Call 162 d av h mc ms Rr := call_of2 (k := 162) (own := 10) ((mtb_4 (i := 2) (by decide)).trans rfl) (by decide +kernel) rfl O_mM_copy K_mM_copy hl body
/-- method 164: EventStructuresModel.eventCount(I)I -/
def M_mM_eventCount : ST := s_retI (e_cond (c_b (e_cS Value.int 148 (aI1 (i_loc 1) a_nil))) (i_fld 9 0 (r_ald (r_fld 10 0 (r_loc 0)) (i_loc 1))) (i_const (-1)))
theorem O_mM_eventCount : OKS M_mM_eventCount := OK_retI (OK_econd (OK_if (OK_cS (OK_aI (OK_iloc _) OK_anil))) (OK_ifld (OK_rald (OK_rfld (OK_rloc _)) (OK_iloc _))) (OK_const _))
theorem K_mM_eventCount : M_mM_eventCount.1 (10, (kini 1), prog_10_method_15_code, some (.int), 2) 0 = some (21, false, []) := by decide +kernel
theorem C_mM_eventCount {d mc ms : Nat} {av : List Value} {h : FH} {Rr : Option Value → FH → Prop} (hl : (lg_sl av).length ≤ 2) (body : ∀ g : GE, g.1 = d → M_mM_eventCount.2 g (fun _ _ _ => False) Rr (eent 2 av) h (mc, ms)) : Call 164 d av h mc ms Rr := call_of2 (k := 164) (own := 10) ((mtb_4 (i := 4) (by decide)).trans rfl) (by decide +kernel) rfl O_mM_eventCount K_mM_eventCount hl body
/-- method 165: EventStructuresModel.label(II)I -/
def M_mM_label : ST := s_retI (e_cond (c_b (e_cV Value.int 153 (r_loc 0) (aI1 (i_loc 1) (aI1 (i_loc 2) a_nil)))) (i_ald (r_fld 9 1 (r_ald (r_fld 10 0 (r_loc 0)) (i_loc 1))) (i_loc 2)) (i_const (-1)))
theorem O_mM_label : OKS M_mM_label := OK_retI (OK_econd (OK_if (OK_cV (OK_rloc _) (OK_aI (OK_iloc _) (OK_aI (OK_iloc _) OK_anil)))) (OK_iald (OK_rfld (OK_rald (OK_rfld (OK_rloc _)) (OK_iloc _))) (OK_iloc _)) (OK_const _))
theorem K_mM_label : M_mM_label.1 (10, (kini 1), prog_10_method_16_code, some (.int), 3) 0 = some (25, false, []) := by decide +kernel
theorem C_mM_label {d mc ms : Nat} {av : List Value} {h : FH} {Rr : Option Value → FH → Prop} (hl : (lg_sl av).length ≤ 3) (body : ∀ g : GE, g.1 = d → M_mM_label.2 g (fun _ _ _ => False) Rr (eent 3 av) h (mc, ms)) : Call 165 d av h mc ms Rr := call_of2 (k := 165) (own := 10) ((mtb_4 (i := 5) (by decide)).trans rfl) (by decide +kernel) rfl O_mM_label K_mM_label hl body
/-- method 166: EventStructuresModel.isBelow(III)I -/
def M_mM_isBelow : ST := s_seq (s_if (c_or (c_not (c_b (e_cV Value.int 153 (r_loc 0) (aI1 (i_loc 1) (aI1 (i_loc 2) a_nil))))) (c_not (c_b (e_cV Value.int 153 (r_loc 0) (aI1 (i_loc 1) (aI1 (i_loc 3) a_nil)))))) (s_retI (i_const (-1))))
 (s_retI (e_cond (c_b (e_cV Value.int 156 (r_ald (r_fld 10 0 (r_loc 0)) (i_loc 1)) (aI1 (i_loc 2) (aI1 (i_loc 3) a_nil)))) (i_const 1) (i_const 0)))
theorem O_mM_isBelow : OKS M_mM_isBelow := OK_seq (OK_sif (OK_cor (OK_not (OK_if (OK_cV (OK_rloc _) (OK_aI (OK_iloc _) (OK_aI (OK_iloc _) OK_anil))))) (OK_not (OK_if (OK_cV (OK_rloc _) (OK_aI (OK_iloc _) (OK_aI (OK_iloc _) OK_anil)))))) (OK_retI (OK_const _))) (OK_retI (OK_econd (OK_if (OK_cV (OK_rald (OK_rfld (OK_rloc _)) (OK_iloc _)) (OK_aI (OK_iloc _) (OK_aI (OK_iloc _) OK_anil)))) (OK_const _) (OK_const _)))
theorem K_mM_isBelow : M_mM_isBelow.1 (10, (kini 1), prog_10_method_17_code, some (.int), 4) 0 = some (40, false, []) := by decide +kernel
theorem C_mM_isBelow {d mc ms : Nat} {av : List Value} {h : FH} {Rr : Option Value → FH → Prop} (hl : (lg_sl av).length ≤ 4) (body : ∀ g : GE, g.1 = d → M_mM_isBelow.2 g (fun _ _ _ => False) Rr (eent 4 av) h (mc, ms)) : Call 166 d av h mc ms Rr := call_of2 (k := 166) (own := 10) ((mtb_4 (i := 6) (by decide)).trans rfl) (by decide +kernel) rfl O_mM_isBelow K_mM_isBelow hl body
/-- method 167: EventStructuresModel.areInConflict(III)I -/
def M_mM_areInConflict : ST := s_seq (s_if (c_or (c_not (c_b (e_cV Value.int 153 (r_loc 0) (aI1 (i_loc 1) (aI1 (i_loc 2) a_nil))))) (c_not (c_b (e_cV Value.int 153 (r_loc 0) (aI1 (i_loc 1) (aI1 (i_loc 3) a_nil)))))) (s_retI (i_const (-1))))
 (s_retI (e_cond (c_b (e_cV Value.int 168 (r_ald (r_fld 10 0 (r_loc 0)) (i_loc 1)) (aI1 (i_loc 2) (aI1 (i_loc 3) a_nil)))) (i_const 1) (i_const 0)))
theorem O_mM_areInConflict : OKS M_mM_areInConflict := OK_seq (OK_sif (OK_cor (OK_not (OK_if (OK_cV (OK_rloc _) (OK_aI (OK_iloc _) (OK_aI (OK_iloc _) OK_anil))))) (OK_not (OK_if (OK_cV (OK_rloc _) (OK_aI (OK_iloc _) (OK_aI (OK_iloc _) OK_anil)))))) (OK_retI (OK_const _))) (OK_retI (OK_econd (OK_if (OK_cV (OK_rald (OK_rfld (OK_rloc _)) (OK_iloc _)) (OK_aI (OK_iloc _) (OK_aI (OK_iloc _) OK_anil)))) (OK_const _) (OK_const _)))
theorem K_mM_areInConflict : M_mM_areInConflict.1 (10, (kini 1), prog_10_method_18_code, some (.int), 4) 0 = some (40, false, []) := by decide +kernel
theorem C_mM_areInConflict {d mc ms : Nat} {av : List Value} {h : FH} {Rr : Option Value → FH → Prop} (hl : (lg_sl av).length ≤ 4) (body : ∀ g : GE, g.1 = d → M_mM_areInConflict.2 g (fun _ _ _ => False) Rr (eent 4 av) h (mc, ms)) : Call 167 d av h mc ms Rr := call_of2 (k := 167) (own := 10) ((mtb_4 (i := 7) (by decide)).trans rfl) (by decide +kernel) rfl O_mM_areInConflict K_mM_areInConflict hl body
/-- method 169: EventStructuresModel.history(II)I -/
def M_mM_history : ST := s_retI (e_cond (c_b (e_cV Value.int 153 (r_loc 0) (aI1 (i_loc 1) (aI1 (i_loc 2) a_nil)))) (e_cV Value.int 157 (r_ald (r_fld 10 0 (r_loc 0)) (i_loc 1)) (aI1 (i_loc 2) a_nil)) (i_const (-1)))
theorem O_mM_history : OKS M_mM_history := OK_retI (OK_econd (OK_if (OK_cV (OK_rloc _) (OK_aI (OK_iloc _) (OK_aI (OK_iloc _) OK_anil)))) (OK_cV (OK_rald (OK_rfld (OK_rloc _)) (OK_iloc _)) (OK_aI (OK_iloc _) OK_anil)) (OK_const _))
theorem K_mM_history : M_mM_history.1 (10, (kini 1), prog_10_method_19_code, some (.int), 3) 0 = some (24, false, []) := by decide +kernel
theorem C_mM_history {d mc ms : Nat} {av : List Value} {h : FH} {Rr : Option Value → FH → Prop} (hl : (lg_sl av).length ≤ 3) (body : ∀ g : GE, g.1 = d → M_mM_history.2 g (fun _ _ _ => False) Rr (eent 3 av) h (mc, ms)) : Call 169 d av h mc ms Rr := call_of2 (k := 169) (own := 10) ((mtb_4 (i := 9) (by decide)).trans rfl) (by decide +kernel) rfl O_mM_history K_mM_history hl body
/-- method 170: EventStructuresModel.concurrentPairs(I)I -/
def M_mM_concurrentPairs : ST := s_seq (s_if (c_not (c_b (e_cS Value.int 148 (aI1 (i_loc 1) a_nil)))) (s_retI (i_const (-1))))
 (s_seq (s_ast 2 (r_ald (r_fld 10 0 (r_loc 0)) (i_loc 1)))
 (s_seq (s_ist 3 (i_const 0))
 (s_seq (s_seq (s_ist 4 (i_const 0))
 (s_whl (c_icmp .lt (i_loc 4) (i_fld 9 0 (r_loc 2))) (s_seq (s_seq (s_ist 5 (i_add (i_loc 4) (i_const 1)))
 (s_whl (c_icmp .lt (i_loc 5) (i_fld 9 0 (r_loc 2))) (s_seq (s_ist 3 (i_add (i_loc 3) (e_cond (c_b (e_cV Value.int 171 (r_loc 2) (aI1 (i_loc 4) (aI1 (i_loc 5) a_nil)))) (i_const 1) (i_const 0))))
 (s_inc 5 1))))
 (s_inc 4 1))))
 (s_retI (i_loc 3)))))
theorem O_mM_concurrentPairs : OKS M_mM_concurrentPairs := OK_seq (OK_sif (OK_not (OK_if (OK_cS (OK_aI (OK_iloc _) OK_anil)))) (OK_retI (OK_const _))) (OK_seq (OK_ast (OK_rald (OK_rfld (OK_rloc _)) (OK_iloc _))) (OK_seq (OK_ist (OK_const _)) (OK_seq (OK_seq (OK_ist (OK_const _)) (OK_whl (OK_icmp (OK_iloc _) (OK_ifld (OK_rloc _))) (OK_seq (OK_seq (OK_ist (OK_add (OK_iloc _) (OK_const _))) (OK_whl (OK_icmp (OK_iloc _) (OK_ifld (OK_rloc _))) (OK_seq (OK_ist (OK_add (OK_iloc _) (OK_econd (OK_if (OK_cV (OK_rloc _) (OK_aI (OK_iloc _) (OK_aI (OK_iloc _) OK_anil)))) (OK_const _) (OK_const _)))) OK_inc))) OK_inc))) (OK_retI (OK_iloc _)))))
theorem K_mM_concurrentPairs : M_mM_concurrentPairs.1 (10, (kini 1), prog_10_method_20_code, some (.int), 6) 0 = some (78, false, []) := by decide +kernel
theorem C_mM_concurrentPairs {d mc ms : Nat} {av : List Value} {h : FH} {Rr : Option Value → FH → Prop} (hl : (lg_sl av).length ≤ 6) (body : ∀ g : GE, g.1 = d → M_mM_concurrentPairs.2 g (fun _ _ _ => False) Rr (eent 6 av) h (mc, ms)) : Call 170 d av h mc ms Rr := call_of2 (k := 170) (own := 10) ((mtb_4 (i := 10) (by decide)).trans rfl) (by decide +kernel) rfl O_mM_concurrentPairs K_mM_concurrentPairs hl body
/-- method 172: EventStructuresModel.isConfiguration(II)I -/
def M_mM_isConfiguration : ST := s_retI (e_cond (c_not (c_b (e_cS Value.int 148 (aI1 (i_loc 1) a_nil)))) (i_const (-1)) (e_cond (c_b (e_cV Value.int 173 (r_loc 0) (aI1 (i_loc 1) (aI1 (i_loc 2) a_nil)))) (i_const 1) (i_const 0)))
theorem O_mM_isConfiguration : OKS M_mM_isConfiguration := OK_retI (OK_econd (OK_not (OK_if (OK_cS (OK_aI (OK_iloc _) OK_anil)))) (OK_const _) (OK_econd (OK_if (OK_cV (OK_rloc _) (OK_aI (OK_iloc _) (OK_aI (OK_iloc _) OK_anil)))) (OK_const _) (OK_const _)))
theorem K_mM_isConfiguration : M_mM_isConfiguration.1 (10, (kini 1), prog_10_method_21_code, some (.int), 3) 0 = some (26, false, []) := by decide +kernel
theorem C_mM_isConfiguration {d mc ms : Nat} {av : List Value} {h : FH} {Rr : Option Value → FH → Prop} (hl : (lg_sl av).length ≤ 3) (body : ∀ g : GE, g.1 = d → M_mM_isConfiguration.2 g (fun _ _ _ => False) Rr (eent 3 av) h (mc, ms)) : Call 172 d av h mc ms Rr := call_of2 (k := 172) (own := 10) ((mtb_4 (i := 12) (by decide)).trans rfl) (by decide +kernel) rfl O_mM_isConfiguration K_mM_isConfiguration hl body
/-- method 173: EventStructuresModel.isConfig(II)Z -/
def M_mM_isConfig : ST := s_retZ (e_cV Value.int 174 (r_ald (r_fld 10 0 (r_loc 0)) (i_loc 1)) (aI1 (i_loc 2) a_nil))
theorem O_mM_isConfig : OKS M_mM_isConfig := OK_retZ (OK_cV (OK_rald (OK_rfld (OK_rloc _)) (OK_iloc _)) (OK_aI (OK_iloc _) OK_anil))
theorem K_mM_isConfig : M_mM_isConfig.1 (10, (kini 1), prog_10_method_6_code, some (.boolean), 3) 0 = some (11, false, []) := by decide +kernel
theorem C_mM_isConfig {d mc ms : Nat} {av : List Value} {h : FH} {Rr : Option Value → FH → Prop} (hl : (lg_sl av).length ≤ 3) (body : ∀ g : GE, g.1 = d → M_mM_isConfig.2 g (fun _ _ _ => False) Rr (eent 3 av) h (mc, ms)) : Call 173 d av h mc ms Rr := call_of2 (k := 173) (own := 10) ((mtb_4 (i := 13) (by decide)).trans rfl) (by decide +kernel) rfl O_mM_isConfig K_mM_isConfig hl body
/-- method 176: EventStructuresModel.configurationCount(I)I -/
def M_mM_configurationCount : ST := s_seq (s_if (c_not (c_b (e_cS Value.int 148 (aI1 (i_loc 1) a_nil)))) (s_retI (i_const (-1))))
 (s_seq (s_ist 2 (i_const 0))
 (s_seq (s_seq (s_ist 3 (i_const 0))
 (s_whl (c_icmp .lt (i_loc 3) (i_const 256)) (s_seq (s_ist 2 (i_add (i_loc 2) (e_cond (c_b (e_cV Value.int 173 (r_loc 0) (aI1 (i_loc 1) (aI1 (i_loc 3) a_nil)))) (i_const 1) (i_const 0))))
 (s_inc 3 1))))
 (s_retI (i_loc 2))))
theorem O_mM_configurationCount : OKS M_mM_configurationCount := OK_seq (OK_sif (OK_not (OK_if (OK_cS (OK_aI (OK_iloc _) OK_anil)))) (OK_retI (OK_const _))) (OK_seq (OK_ist (OK_const _)) (OK_seq (OK_seq (OK_ist (OK_const _)) (OK_whl (OK_icmp (OK_iloc _) (OK_const _)) (OK_seq (OK_ist (OK_add (OK_iloc _) (OK_econd (OK_if (OK_cV (OK_rloc _) (OK_aI (OK_iloc _) (OK_aI (OK_iloc _) OK_anil)))) (OK_const _) (OK_const _)))) OK_inc))) (OK_retI (OK_iloc _))))
theorem K_mM_configurationCount : M_mM_configurationCount.1 (10, (kini 1), prog_10_method_22_code, some (.int), 4) 0 = some (45, false, []) := by decide +kernel
theorem C_mM_configurationCount {d mc ms : Nat} {av : List Value} {h : FH} {Rr : Option Value → FH → Prop} (hl : (lg_sl av).length ≤ 4) (body : ∀ g : GE, g.1 = d → M_mM_configurationCount.2 g (fun _ _ _ => False) Rr (eent 4 av) h (mc, ms)) : Call 176 d av h mc ms Rr := call_of2 (k := 176) (own := 10) ((mtb_4 (i := 16) (by decide)).trans rfl) (by decide +kernel) rfl O_mM_configurationCount K_mM_configurationCount hl body
/-- method 177: EventStructuresModel.maximalCount(I)I -/
def M_mM_maximalCount : ST := s_seq (s_if (c_not (c_b (e_cS Value.int 148 (aI1 (i_loc 1) a_nil)))) (s_retI (i_const (-1))))
 (s_seq (s_ist 2 (i_const 0))
 (s_seq (s_seq (s_ist 3 (i_const 0))
 (s_whl (c_icmp .lt (i_loc 3) (i_const 256)) (s_seq (s_ist 2 (i_add (i_loc 2) (e_cond (c_b (e_cV Value.int 178 (r_ald (r_fld 10 0 (r_loc 0)) (i_loc 1)) (aI1 (i_loc 3) a_nil))) (i_const 1) (i_const 0))))
 (s_inc 3 1))))
 (s_retI (i_loc 2))))
theorem O_mM_maximalCount : OKS M_mM_maximalCount := OK_seq (OK_sif (OK_not (OK_if (OK_cS (OK_aI (OK_iloc _) OK_anil)))) (OK_retI (OK_const _))) (OK_seq (OK_ist (OK_const _)) (OK_seq (OK_seq (OK_ist (OK_const _)) (OK_whl (OK_icmp (OK_iloc _) (OK_const _)) (OK_seq (OK_ist (OK_add (OK_iloc _) (OK_econd (OK_if (OK_cV (OK_rald (OK_rfld (OK_rloc _)) (OK_iloc _)) (OK_aI (OK_iloc _) OK_anil))) (OK_const _) (OK_const _)))) OK_inc))) (OK_retI (OK_iloc _))))
theorem K_mM_maximalCount : M_mM_maximalCount.1 (10, (kini 1), prog_10_method_23_code, some (.int), 4) 0 = some (49, false, []) := by decide +kernel
theorem C_mM_maximalCount {d mc ms : Nat} {av : List Value} {h : FH} {Rr : Option Value → FH → Prop} (hl : (lg_sl av).length ≤ 4) (body : ∀ g : GE, g.1 = d → M_mM_maximalCount.2 g (fun _ _ _ => False) Rr (eent 4 av) h (mc, ms)) : Call 177 d av h mc ms Rr := call_of2 (k := 177) (own := 10) ((mtb_4 (i := 17) (by decide)).trans rfl) (by decide +kernel) rfl O_mM_maximalCount K_mM_maximalCount hl body
/-- method 179: EventStructuresModel.maximalConfiguration(II)I -/
def M_mM_maximalConfiguration : ST := s_seq (s_if (c_not (c_b (e_cS Value.int 148 (aI1 (i_loc 1) a_nil)))) (s_retI (i_const (-1))))
 (s_seq (s_ist 3 (i_loc 2))
 (s_seq (s_seq (s_ist 4 (i_const 0))
 (s_whl (c_and (c_icmp .lt (i_loc 4) (i_const 256)) (c_if .ge (i_loc 2))) (s_seq (s_if (c_b (e_cV Value.int 178 (r_ald (r_fld 10 0 (r_loc 0)) (i_loc 1)) (aI1 (i_loc 4) a_nil))) (s_seq (s_if (c_if .eq (i_loc 3)) (s_retI (i_loc 4)))
 (s_inc 3 (-1))))
 (s_inc 4 1))))
 (s_retI (i_const (-7)))))
theorem O_mM_maximalConfiguration : OKS M_mM_maximalConfiguration := OK_seq (OK_sif (OK_not (OK_if (OK_cS (OK_aI (OK_iloc _) OK_anil)))) (OK_retI (OK_const _))) (OK_seq (OK_ist (OK_iloc _)) (OK_seq (OK_seq (OK_ist (OK_const _)) (OK_whl (OK_cand (OK_icmp (OK_iloc _) (OK_const _)) (OK_if (OK_iloc _))) (OK_seq (OK_sif (OK_if (OK_cV (OK_rald (OK_rfld (OK_rloc _)) (OK_iloc _)) (OK_aI (OK_iloc _) OK_anil))) (OK_seq (OK_sif (OK_if (OK_iloc _)) (OK_retI (OK_iloc _))) OK_inc)) OK_inc))) (OK_retI (OK_const _))))
theorem K_mM_maximalConfiguration : M_mM_maximalConfiguration.1 (10, (kini 1), prog_10_method_24_code, some (.int), 5) 0 = some (59, false, []) := by decide +kernel
theorem C_mM_maximalConfiguration {d mc ms : Nat} {av : List Value} {h : FH} {Rr : Option Value → FH → Prop} (hl : (lg_sl av).length ≤ 5) (body : ∀ g : GE, g.1 = d → M_mM_maximalConfiguration.2 g (fun _ _ _ => False) Rr (eent 5 av) h (mc, ms)) : Call 179 d av h mc ms Rr := call_of2 (k := 179) (own := 10) ((mtb_4 (i := 19) (by decide)).trans rfl) (by decide +kernel) rfl O_mM_maximalConfiguration K_mM_maximalConfiguration hl body
/-- method 180: EventStructuresModel.enabled(II)I -/
def M_mM_enabled : ST := s_seq (s_ist 3 (e_cV Value.int 181 (r_loc 0) (aI1 (i_loc 1) (aI1 (i_loc 2) a_nil))))
 (s_retI (e_cond (c_if .lt (i_loc 3)) (i_loc 3) (e_cV Value.int 182 (r_ald (r_fld 10 0 (r_loc 0)) (i_loc 1)) (aI1 (i_loc 2) a_nil))))
theorem O_mM_enabled : OKS M_mM_enabled := OK_seq (OK_ist (OK_cV (OK_rloc _) (OK_aI (OK_iloc _) (OK_aI (OK_iloc _) OK_anil)))) (OK_retI (OK_econd (OK_if (OK_iloc _)) (OK_iloc _) (OK_cV (OK_rald (OK_rfld (OK_rloc _)) (OK_iloc _)) (OK_aI (OK_iloc _) OK_anil))))
theorem K_mM_enabled : M_mM_enabled.1 (10, (kini 1), prog_10_method_26_code, some (.int), 4) 0 = some (26, false, []) := by decide +kernel
theorem C_mM_enabled {d mc ms : Nat} {av : List Value} {h : FH} {Rr : Option Value → FH → Prop} (hl : (lg_sl av).length ≤ 4) (body : ∀ g : GE, g.1 = d → M_mM_enabled.2 g (fun _ _ _ => False) Rr (eent 4 av) h (mc, ms)) : Call 180 d av h mc ms Rr := call_of2 (k := 180) (own := 10) ((mtb_4 (i := 20) (by decide)).trans rfl) (by decide +kernel) rfl O_mM_enabled K_mM_enabled hl body
/-- method 181: EventStructuresModel.problem(II)I -/
def M_mM_problem : ST := s_retI (e_cond (c_not (c_b (e_cS Value.int 148 (aI1 (i_loc 1) a_nil)))) (i_const (-1)) (e_cond (c_b (e_cV Value.int 173 (r_loc 0) (aI1 (i_loc 1) (aI1 (i_loc 2) a_nil)))) (i_const 0) (i_const (-5))))
theorem O_mM_problem : OKS M_mM_problem := OK_retI (OK_econd (OK_not (OK_if (OK_cS (OK_aI (OK_iloc _) OK_anil)))) (OK_const _) (OK_econd (OK_if (OK_cV (OK_rloc _) (OK_aI (OK_iloc _) (OK_aI (OK_iloc _) OK_anil)))) (OK_const _) (OK_const _)))
theorem K_mM_problem : M_mM_problem.1 (10, (kini 1), prog_10_method_25_code, some (.int), 3) 0 = some (27, false, []) := by decide +kernel
theorem C_mM_problem {d mc ms : Nat} {av : List Value} {h : FH} {Rr : Option Value → FH → Prop} (hl : (lg_sl av).length ≤ 3) (body : ∀ g : GE, g.1 = d → M_mM_problem.2 g (fun _ _ _ => False) Rr (eent 3 av) h (mc, ms)) : Call 181 d av h mc ms Rr := call_of2 (k := 181) (own := 10) ((mtb_4 (i := 21) (by decide)).trans rfl) (by decide +kernel) rfl O_mM_problem K_mM_problem hl body
/-- method 183: EventStructuresModel.stepCount(II)I -/
def M_mM_stepCount : ST := s_seq (s_ist 3 (e_cV Value.int 181 (r_loc 0) (aI1 (i_loc 1) (aI1 (i_loc 2) a_nil))))
 (s_seq (s_if (c_if .lt (i_loc 3)) (s_retI (i_loc 3)))
 (s_seq (s_cV 184 (r_ald (r_fld 10 0 (r_loc 0)) (i_loc 1)) a_nil)
 (s_seq (s_ist 4 (i_const 0))
 (s_seq (s_seq (s_ist 5 (i_const 1))
 (s_whl (c_icmp .lt (i_loc 5) (i_const 256)) (s_seq (s_ist 4 (i_add (i_loc 4) (e_cond (c_b (e_cV Value.int 185 (r_ald (r_fld 10 0 (r_loc 0)) (i_loc 1)) (aI1 (i_loc 2) (aI1 (i_loc 5) a_nil)))) (i_const 1) (i_const 0))))
 (s_inc 5 1))))
 (s_retI (i_loc 4))))))
theorem O_mM_stepCount : OKS M_mM_stepCount := OK_seq (OK_ist (OK_cV (OK_rloc _) (OK_aI (OK_iloc _) (OK_aI (OK_iloc _) OK_anil)))) (OK_seq (OK_sif (OK_if (OK_iloc _)) (OK_retI (OK_iloc _))) (OK_seq (OK_scV (OK_rald (OK_rfld (OK_rloc _)) (OK_iloc _)) OK_anil) (OK_seq (OK_ist (OK_const _)) (OK_seq (OK_seq (OK_ist (OK_const _)) (OK_whl (OK_icmp (OK_iloc _) (OK_const _)) (OK_seq (OK_ist (OK_add (OK_iloc _) (OK_econd (OK_if (OK_cV (OK_rald (OK_rfld (OK_rloc _)) (OK_iloc _)) (OK_aI (OK_iloc _) (OK_aI (OK_iloc _) OK_anil)))) (OK_const _) (OK_const _)))) OK_inc))) (OK_retI (OK_iloc _))))))
theorem K_mM_stepCount : M_mM_stepCount.1 (10, (kini 1), prog_10_method_27_code, some (.int), 6) 0 = some (70, false, []) := by decide +kernel
theorem C_mM_stepCount {d mc ms : Nat} {av : List Value} {h : FH} {Rr : Option Value → FH → Prop} (hl : (lg_sl av).length ≤ 6) (body : ∀ g : GE, g.1 = d → M_mM_stepCount.2 g (fun _ _ _ => False) Rr (eent 6 av) h (mc, ms)) : Call 183 d av h mc ms Rr := call_of2 (k := 183) (own := 10) ((mtb_4 (i := 23) (by decide)).trans rfl) (by decide +kernel) rfl O_mM_stepCount K_mM_stepCount hl body
/-- method 187: EventStructuresModel.largestStep(II)I -/
def M_mM_largestStep : ST := s_seq (s_ist 3 (e_cV Value.int 181 (r_loc 0) (aI1 (i_loc 1) (aI1 (i_loc 2) a_nil))))
 (s_seq (s_if (c_if .lt (i_loc 3)) (s_retI (i_loc 3)))
 (s_seq (s_cV 184 (r_ald (r_fld 10 0 (r_loc 0)) (i_loc 1)) a_nil)
 (s_seq (s_ist 4 (i_const 0))
 (s_seq (s_seq (s_ist 5 (i_const 1))
 (s_whl (c_icmp .lt (i_loc 5) (i_const 256)) (s_seq (s_if (c_and (c_b (e_cV Value.int 185 (r_ald (r_fld 10 0 (r_loc 0)) (i_loc 1)) (aI1 (i_loc 2) (aI1 (i_loc 5) a_nil)))) (c_icmp .ge (e_cS Value.int 56 (aI1 (i_loc 5) a_nil)) (e_cS Value.int 56 (aI1 (i_loc 4) a_nil)))) (s_ist 4 (i_loc 5)))
 (s_inc 5 1))))
 (s_retI (i_loc 4))))))
theorem O_mM_largestStep : OKS M_mM_largestStep := OK_seq (OK_ist (OK_cV (OK_rloc _) (OK_aI (OK_iloc _) (OK_aI (OK_iloc _) OK_anil)))) (OK_seq (OK_sif (OK_if (OK_iloc _)) (OK_retI (OK_iloc _))) (OK_seq (OK_scV (OK_rald (OK_rfld (OK_rloc _)) (OK_iloc _)) OK_anil) (OK_seq (OK_ist (OK_const _)) (OK_seq (OK_seq (OK_ist (OK_const _)) (OK_whl (OK_icmp (OK_iloc _) (OK_const _)) (OK_seq (OK_sif (OK_cand (OK_if (OK_cV (OK_rald (OK_rfld (OK_rloc _)) (OK_iloc _)) (OK_aI (OK_iloc _) (OK_aI (OK_iloc _) OK_anil)))) (OK_icmp (OK_cS (OK_aI (OK_iloc _) OK_anil)) (OK_cS (OK_aI (OK_iloc _) OK_anil)))) (OK_ist (OK_iloc _))) OK_inc))) (OK_retI (OK_iloc _))))))
theorem K_mM_largestStep : M_mM_largestStep.1 (10, (kini 1), prog_10_method_28_code, some (.int), 6) 0 = some (77, false, []) := by decide +kernel
theorem C_mM_largestStep {d mc ms : Nat} {av : List Value} {h : FH} {Rr : Option Value → FH → Prop} (hl : (lg_sl av).length ≤ 6) (body : ∀ g : GE, g.1 = d → M_mM_largestStep.2 g (fun _ _ _ => False) Rr (eent 6 av) h (mc, ms)) : Call 187 d av h mc ms Rr := call_of2 (k := 187) (own := 10) ((mtb_4 (i := 27) (by decide)).trans rfl) (by decide +kernel) rfl O_mM_largestStep K_mM_largestStep hl body
/-- method 188: EventStructuresModel.runCount(II)I -/
def M_mM_runCount : ST := s_seq (s_ist 3 (e_cV Value.int 181 (r_loc 0) (aI1 (i_loc 1) (aI1 (i_loc 2) a_nil))))
 (s_retI (e_cond (c_if .lt (i_loc 3)) (i_loc 3) (e_cV Value.int 189 (r_loc 0) (aR1 (r_ald (r_fld 10 0 (r_loc 0)) (i_loc 1)) (aI1 (i_loc 2) (aI1 (i_const 0) a_nil))))))
theorem O_mM_runCount : OKS M_mM_runCount := OK_seq (OK_ist (OK_cV (OK_rloc _) (OK_aI (OK_iloc _) (OK_aI (OK_iloc _) OK_anil)))) (OK_retI (OK_econd (OK_if (OK_iloc _)) (OK_iloc _) (OK_cV (OK_rloc _) (OK_aR (OK_rald (OK_rfld (OK_rloc _)) (OK_iloc _)) (OK_aI (OK_iloc _) (OK_aI (OK_const _) OK_anil))))))
theorem K_mM_runCount : M_mM_runCount.1 (10, (kini 1), prog_10_method_30_code, some (.int), 4) 0 = some (28, false, []) := by decide +kernel
theorem C_mM_runCount {d mc ms : Nat} {av : List Value} {h : FH} {Rr : Option Value → FH → Prop} (hl : (lg_sl av).length ≤ 4) (body : ∀ g : GE, g.1 = d → M_mM_runCount.2 g (fun _ _ _ => False) Rr (eent 4 av) h (mc, ms)) : Call 188 d av h mc ms Rr := call_of2 (k := 188) (own := 10) ((mtb_4 (i := 28) (by decide)).trans rfl) (by decide +kernel) rfl O_mM_runCount K_mM_runCount hl body
/-- method 189: EventStructuresModel.ways(LEventStructuresModel$Structure;IZ)I -/
def M_mM_ways : ST := s_seq (s_cV 184 (r_loc 1) a_nil)
 (s_seq (s_iast (r_fld 10 3 (r_loc 0)) (i_const 0) (i_const 1))
 (s_seq (s_seq (s_ist 4 (i_const 1))
 (s_whl (c_icmp .le (i_loc 4) (i_loc 2)) (s_seq (s_seq (s_iast (r_fld 10 3 (r_loc 0)) (i_loc 4) (i_const 0))
 (s_seq (s_ist 5 (e_cond (c_and (c_if .eq (i_and (i_loc 4) (i_xor (i_loc 2) (i_const (-1))))) (c_b (e_cV Value.int 174 (r_loc 1) (aI1 (i_loc 4) a_nil)))) (i_const 1) (i_const 0)))
 (s_seq (s_ist 6 (i_loc 4))
 (s_whl (c_and (c_if .gt (i_loc 6)) (c_b (i_loc 5))) (s_seq (s_seq (s_ist 7 (e_cond (c_if .eq (i_and (i_loc 6) (i_sub (i_loc 6) (i_const 1)))) (i_const 1) (i_const 0)))
 (s_if (c_and (c_and (c_or (c_b (i_loc 3)) (c_b (i_loc 7))) (c_if .gt (i_ald (r_fld 10 3 (r_loc 0)) (i_xor (i_loc 4) (i_loc 6))))) (c_b (e_cV Value.int 185 (r_loc 1) (aI1 (i_xor (i_loc 4) (i_loc 6)) (aI1 (i_loc 6) a_nil))))) (s_opaI .iadd (fun x y => x + y) (r_fld 10 3 (r_loc 0)) (i_loc 4) (i_ald (r_fld 10 3 (r_loc 0)) (i_xor (i_loc 4) (i_loc 6))))))
 (s_ist 6 (i_and (i_sub (i_loc 6) (i_const 1)) (i_loc 4))))))))
 (s_inc 4 1))))
 (s_retI (i_ald (r_fld 10 3 (r_loc 0)) (i_loc 2)))))
theorem O_mM_ways : OKS M_mM_ways := OK_seq (OK_scV (OK_rloc _) OK_anil) (OK_seq (OK_siast (OK_rfld (OK_rloc _)) (OK_const _) (OK_const _)) (OK_seq (OK_seq (OK_ist (OK_const _)) (OK_whl (OK_icmp (OK_iloc _) (OK_iloc _)) (OK_seq (OK_seq (OK_siast (OK_rfld (OK_rloc _)) (OK_iloc _) (OK_const _)) (OK_seq (OK_ist (OK_econd (OK_cand (OK_if (OK_and (OK_iloc _) (OK_xor (OK_iloc _) (OK_const _)))) (OK_if (OK_cV (OK_rloc _) (OK_aI (OK_iloc _) OK_anil)))) (OK_const _) (OK_const _))) (OK_seq (OK_ist (OK_iloc _)) (OK_whl (OK_cand (OK_if (OK_iloc _)) (OK_if (OK_iloc _))) (OK_seq (OK_seq (OK_ist (OK_econd (OK_if (OK_and (OK_iloc _) (OK_sub (OK_iloc _) (OK_const _)))) (OK_const _) (OK_const _))) (OK_sif (OK_cand (OK_cand (OK_cor (OK_if (OK_iloc _)) (OK_if (OK_iloc _))) (OK_if (OK_iald (OK_rfld (OK_rloc _)) (OK_xor (OK_iloc _) (OK_iloc _))))) (OK_if (OK_cV (OK_rloc _) (OK_aI (OK_xor (OK_iloc _) (OK_iloc _)) (OK_aI (OK_iloc _) OK_anil))))) (OK_opaI (by simp) (fun K pc env st h bd x y X hd k => J_iadd X hd k) (OK_rfld (OK_rloc _)) (OK_iloc _) (OK_iald (OK_rfld (OK_rloc _)) (OK_xor (OK_iloc _) (OK_iloc _)))))) (OK_ist (OK_and (OK_sub (OK_iloc _) (OK_const _)) (OK_iloc _)))))))) OK_inc))) (OK_retI (OK_iald (OK_rfld (OK_rloc _)) (OK_iloc _)))))
theorem K_mM_ways : M_mM_ways.1 (10, (kini 1), prog_10_method_29_code, some (.int), 8) 0 = some (165, false, []) := by decide +kernel
theorem C_mM_ways {d mc ms : Nat} {av : List Value} {h : FH} {Rr : Option Value → FH → Prop} (hl : (lg_sl av).length ≤ 8) (body : ∀ g : GE, g.1 = d → M_mM_ways.2 g (fun _ _ _ => False) Rr (eent 8 av) h (mc, ms)) : Call 189 d av h mc ms Rr := call_of2 (k := 189) (own := 10) ((mtb_4 (i := 29) (by decide)).trans rfl) (by decide +kernel) rfl O_mM_ways K_mM_ways hl body
/-- method 190: EventStructuresModel.stepRunCount(II)I -/
def M_mM_stepRunCount : ST := s_seq (s_ist 3 (e_cV Value.int 181 (r_loc 0) (aI1 (i_loc 1) (aI1 (i_loc 2) a_nil))))
 (s_retI (e_cond (c_if .lt (i_loc 3)) (i_loc 3) (e_cV Value.int 189 (r_loc 0) (aR1 (r_ald (r_fld 10 0 (r_loc 0)) (i_loc 1)) (aI1 (i_loc 2) (aI1 (i_const 1) a_nil))))))
theorem O_mM_stepRunCount : OKS M_mM_stepRunCount := OK_seq (OK_ist (OK_cV (OK_rloc _) (OK_aI (OK_iloc _) (OK_aI (OK_iloc _) OK_anil)))) (OK_retI (OK_econd (OK_if (OK_iloc _)) (OK_iloc _) (OK_cV (OK_rloc _) (OK_aR (OK_rald (OK_rfld (OK_rloc _)) (OK_iloc _)) (OK_aI (OK_iloc _) (OK_aI (OK_const _) OK_anil))))))
theorem K_mM_stepRunCount : M_mM_stepRunCount.1 (10, (kini 1), prog_10_method_31_code, some (.int), 4) 0 = some (28, false, []) := by decide +kernel
theorem C_mM_stepRunCount {d mc ms : Nat} {av : List Value} {h : FH} {Rr : Option Value → FH → Prop} (hl : (lg_sl av).length ≤ 4) (body : ∀ g : GE, g.1 = d → M_mM_stepRunCount.2 g (fun _ _ _ => False) Rr (eent 4 av) h (mc, ms)) : Call 190 d av h mc ms Rr := call_of2 (k := 190) (own := 10) ((mtb_4 (i := 30) (by decide)).trans rfl) (by decide +kernel) rfl O_mM_stepRunCount K_mM_stepRunCount hl body
/-- method 191: EventStructuresModel.shortestTime(II)I -/
def M_mM_shortestTime : ST := s_seq (s_ist 3 (e_cV Value.int 181 (r_loc 0) (aI1 (i_loc 1) (aI1 (i_loc 2) a_nil))))
 (s_seq (s_if (c_if .lt (i_loc 3)) (s_retI (i_loc 3)))
 (s_seq (s_lst 4 (l_const 0))
 (s_seq (s_seq (s_ist 6 (i_const 0))
 (s_whl (c_icmp .lt (i_loc 6) (i_const 8)) (s_seq (s_lst 4 (e_cond (c_icmp .eq (i_and (i_shr (i_loc 2) (i_loc 6)) (i_const 1)) (i_const 1)) (l_max (l_loc 4) (e_cS Value.long 192 (aR1 (r_ald (r_fld 10 0 (r_loc 0)) (i_loc 1)) (aI1 (i_loc 6) a_nil)))) (l_loc 4)))
 (s_inc 6 1))))
 (s_retI (e_cS Value.int 193 (aL1 (l_loc 4) a_nil))))))
theorem O_mM_shortestTime : OKS M_mM_shortestTime := OK_seq (OK_ist (OK_cV (OK_rloc _) (OK_aI (OK_iloc _) (OK_aI (OK_iloc _) OK_anil)))) (OK_seq (OK_sif (OK_if (OK_iloc _)) (OK_retI (OK_iloc _))) (OK_seq (OK_lst (OK_lconst _)) (OK_seq (OK_seq (OK_ist (OK_const _)) (OK_whl (OK_icmp (OK_iloc _) (OK_const _)) (OK_seq (OK_lst (OK_econd (OK_icmp (OK_and (OK_shr (OK_iloc _) (OK_iloc _)) (OK_const _)) (OK_const _)) (OK_lmax (OK_lloc _) (OK_cS (OK_aR (OK_rald (OK_rfld (OK_rloc _)) (OK_iloc _)) (OK_aI (OK_iloc _) OK_anil)))) (OK_lloc _))) OK_inc))) (OK_retI (OK_cS (OK_aL (OK_lloc _) OK_anil))))))
theorem K_mM_shortestTime : M_mM_shortestTime.1 (10, (kini 1), prog_10_method_34_code, some (.int), 7) 0 = some (71, false, []) := by decide +kernel
theorem C_mM_shortestTime {d mc ms : Nat} {av : List Value} {h : FH} {Rr : Option Value → FH → Prop} (hl : (lg_sl av).length ≤ 7) (body : ∀ g : GE, g.1 = d → M_mM_shortestTime.2 g (fun _ _ _ => False) Rr (eent 7 av) h (mc, ms)) : Call 191 d av h mc ms Rr := call_of2 (k := 191) (own := 10) ((mtb_4 (i := 31) (by decide)).trans rfl) (by decide +kernel) rfl O_mM_shortestTime K_mM_shortestTime hl body
/-- method 192: EventStructuresModel.timeTo(LEventStructuresModel$Structure;I)J -/
def M_mM_timeTo : ST := s_seq (s_lst 2 (l_const 0))
 (s_seq (s_seq (s_ist 4 (i_const 0))
 (s_whl (c_icmp .lt (i_loc 4) (i_fld 9 0 (r_loc 0))) (s_seq (s_if (c_icmp .eq (i_and (i_shr (i_ald (r_fld 9 3 (r_loc 0)) (i_loc 1)) (i_loc 4)) (i_const 1)) (i_const 1)) (s_lst 2 (l_max (l_loc 2) (e_cS Value.long 192 (aR1 (r_loc 0) (aI1 (i_loc 4) a_nil))))))
 (s_inc 4 1))))
 (s_retL (l_add (l_loc 2) (l_i2l (i_ald (r_fld 9 2 (r_loc 0)) (i_loc 1))))))
theorem O_mM_timeTo : OKS M_mM_timeTo := OK_seq (OK_lst (OK_lconst _)) (OK_seq (OK_seq (OK_ist (OK_const _)) (OK_whl (OK_icmp (OK_iloc _) (OK_ifld (OK_rloc _))) (OK_seq (OK_sif (OK_icmp (OK_and (OK_shr (OK_iald (OK_rfld (OK_rloc _)) (OK_iloc _)) (OK_iloc _)) (OK_const _)) (OK_const _)) (OK_lst (OK_lmax (OK_lloc _) (OK_cS (OK_aR (OK_rloc _) (OK_aI (OK_iloc _) OK_anil)))))) OK_inc))) (OK_retL (OK_ladd (OK_lloc _) (OK_i2l (OK_iald (OK_rfld (OK_rloc _)) (OK_iloc _))))))
theorem K_mM_timeTo : M_mM_timeTo.1 (10, (kini 0), prog_10_method_32_code, some (.long), 5) 0 = some (56, false, []) := by decide +kernel
theorem C_mM_timeTo {d mc ms : Nat} {av : List Value} {h : FH} {Rr : Option Value → FH → Prop} (hl : (lg_sl av).length ≤ 5) (body : ∀ g : GE, g.1 = d → M_mM_timeTo.2 g (fun _ _ _ => False) Rr (eent 5 av) h (mc, ms)) : Call 192 d av h mc ms Rr := call_of2 (k := 192) (own := 10) ((mtb_4 (i := 32) (by decide)).trans rfl) (by decide +kernel) rfl O_mM_timeTo K_mM_timeTo hl body
/-- method 193: EventStructuresModel.fitted(J)I -/
def M_mM_fitted : ST := s_retI (e_cond (c_lcmp .gt (l_loc 0) (l_const 2147483647)) (i_const (-8)) (i_l2i (l_loc 0)))
theorem O_mM_fitted : OKS M_mM_fitted := OK_retI (OK_econd (OK_lcmp (OK_lloc _) (OK_lconst _)) (OK_const _) (OK_l2i (OK_lloc _)))
theorem K_mM_fitted : M_mM_fitted.1 (10, (kini 0), prog_10_method_33_code, some (.int), 2) 0 = some (16, false, []) := by decide +kernel
theorem C_mM_fitted {d mc ms : Nat} {av : List Value} {h : FH} {Rr : Option Value → FH → Prop} (hl : (lg_sl av).length ≤ 2) (body : ∀ g : GE, g.1 = d → M_mM_fitted.2 g (fun _ _ _ => False) Rr (eent 2 av) h (mc, ms)) : Call 193 d av h mc ms Rr := call_of2 (k := 193) (own := 10) ((mtb_4 (i := 33) (by decide)).trans rfl) (by decide +kernel) rfl O_mM_fitted K_mM_fitted hl body
/-- method 194: EventStructuresModel.totalTime(II)I -/
def M_mM_totalTime : ST := s_seq (s_ist 3 (e_cV Value.int 181 (r_loc 0) (aI1 (i_loc 1) (aI1 (i_loc 2) a_nil))))
 (s_seq (s_if (c_if .lt (i_loc 3)) (s_retI (i_loc 3)))
 (s_seq (s_lst 4 (l_const 0))
 (s_seq (s_seq (s_ist 6 (i_const 0))
 (s_whl (c_icmp .lt (i_loc 6) (i_const 8)) (s_seq (s_lst 4 (l_add (l_loc 4) (e_cond (c_icmp .eq (i_and (i_shr (i_loc 2) (i_loc 6)) (i_const 1)) (i_const 1)) (l_i2l (i_ald (r_fld 9 2 (r_ald (r_fld 10 0 (r_loc 0)) (i_loc 1))) (i_loc 6))) (l_const 0))))
 (s_inc 6 1))))
 (s_retI (e_cS Value.int 193 (aL1 (l_loc 4) a_nil))))))
theorem O_mM_totalTime : OKS M_mM_totalTime := OK_seq (OK_ist (OK_cV (OK_rloc _) (OK_aI (OK_iloc _) (OK_aI (OK_iloc _) OK_anil)))) (OK_seq (OK_sif (OK_if (OK_iloc _)) (OK_retI (OK_iloc _))) (OK_seq (OK_lst (OK_lconst _)) (OK_seq (OK_seq (OK_ist (OK_const _)) (OK_whl (OK_icmp (OK_iloc _) (OK_const _)) (OK_seq (OK_lst (OK_ladd (OK_lloc _) (OK_econd (OK_icmp (OK_and (OK_shr (OK_iloc _) (OK_iloc _)) (OK_const _)) (OK_const _)) (OK_i2l (OK_iald (OK_rfld (OK_rald (OK_rfld (OK_rloc _)) (OK_iloc _))) (OK_iloc _))) (OK_lconst _)))) OK_inc))) (OK_retI (OK_cS (OK_aL (OK_lloc _) OK_anil))))))
theorem K_mM_totalTime : M_mM_totalTime.1 (10, (kini 1), prog_10_method_35_code, some (.int), 7) 0 = some (70, false, []) := by decide +kernel
theorem C_mM_totalTime {d mc ms : Nat} {av : List Value} {h : FH} {Rr : Option Value → FH → Prop} (hl : (lg_sl av).length ≤ 7) (body : ∀ g : GE, g.1 = d → M_mM_totalTime.2 g (fun _ _ _ => False) Rr (eent 7 av) h (mc, ms)) : Call 194 d av h mc ms Rr := call_of2 (k := 194) (own := 10) ((mtb_4 (i := 34) (by decide)).trans rfl) (by decide +kernel) rfl O_mM_totalTime K_mM_totalTime hl body
/-- method 195: EventStructuresModel.occur(II)I -/
def M_mM_occur : ST := s_seq (s_if (c_not (c_b (e_cV Value.int 153 (r_loc 0) (aI1 (i_loc 1) (aI1 (i_loc 2) a_nil))))) (s_retI (i_const (-1))))
 (s_seq (s_ast 3 (r_ald (r_fld 10 0 (r_loc 0)) (i_loc 1)))
 (s_seq (s_if (c_if .eq (i_and (i_shr (e_cV Value.int 182 (r_loc 3) (aI1 (i_fld 9 5 (r_loc 3)) a_nil)) (i_loc 2)) (i_const 1))) (s_retI (i_const (-5))))
 (s_seq (s_opf 9 5 .ior (fun x y => x ||| y) (r_loc 3) (i_shl (i_const 1) (i_loc 2)))
 (s_retI (i_fld 9 5 (r_loc 3))))))
theorem O_mM_occur : OKS M_mM_occur := OK_seq (OK_sif (OK_not (OK_if (OK_cV (OK_rloc _) (OK_aI (OK_iloc _) (OK_aI (OK_iloc _) OK_anil))))) (OK_retI (OK_const _))) (OK_seq (OK_ast (OK_rald (OK_rfld (OK_rloc _)) (OK_iloc _))) (OK_seq (OK_sif (OK_if (OK_and (OK_shr (OK_cV (OK_rloc _) (OK_aI (OK_ifld (OK_rloc _)) OK_anil)) (OK_iloc _)) (OK_const _))) (OK_retI (OK_const _))) (OK_seq (OK_opf (by simp) (fun K pc env st h bd x y X hd k => J_ior X hd k) (OK_rloc _) (OK_shl (OK_const _) (OK_iloc _))) (OK_retI (OK_ifld (OK_rloc _))))))
theorem K_mM_occur : M_mM_occur.1 (10, (kini 1), prog_10_method_36_code, some (.int), 4) 0 = some (53, false, []) := by decide +kernel
theorem C_mM_occur {d mc ms : Nat} {av : List Value} {h : FH} {Rr : Option Value → FH → Prop} (hl : (lg_sl av).length ≤ 4) (body : ∀ g : GE, g.1 = d → M_mM_occur.2 g (fun _ _ _ => False) Rr (eent 4 av) h (mc, ms)) : Call 195 d av h mc ms Rr := call_of2 (k := 195) (own := 10) ((mtb_4 (i := 35) (by decide)).trans rfl) (by decide +kernel) rfl O_mM_occur K_mM_occur hl body
/-- method 196: EventStructuresModel.withdraw(II)I -/
def M_mM_withdraw : ST := s_seq (s_if (c_not (c_b (e_cV Value.int 153 (r_loc 0) (aI1 (i_loc 1) (aI1 (i_loc 2) a_nil))))) (s_retI (i_const (-1))))
 (s_seq (s_ast 3 (r_ald (r_fld 10 0 (r_loc 0)) (i_loc 1)))
 (s_seq (s_ist 4 (e_cond (c_icmp .eq (i_and (i_shr (i_fld 9 5 (r_loc 3)) (i_loc 2)) (i_const 1)) (i_const 1)) (i_const 1) (i_const 0)))
 (s_seq (s_seq (s_ist 5 (i_const 0))
 (s_whl (c_icmp .lt (i_loc 5) (i_fld 9 0 (r_loc 3))) (s_seq (s_ist 4 (e_cond (c_and (c_b (i_loc 4)) (c_not (c_and (c_icmp .eq (i_and (i_shr (i_fld 9 5 (r_loc 3)) (i_loc 5)) (i_const 1)) (i_const 1)) (c_b (e_cV Value.int 156 (r_loc 3) (aI1 (i_loc 2) (aI1 (i_loc 5) a_nil))))))) (i_const 1) (i_const 0)))
 (s_inc 5 1))))
 (s_seq (s_if (c_not (c_b (i_loc 4))) (s_retI (i_const (-5))))
 (s_seq (s_opf 9 5 .ixor (fun x y => x ^^^ y) (r_loc 3) (i_shl (i_const 1) (i_loc 2)))
 (s_retI (i_fld 9 5 (r_loc 3))))))))
theorem O_mM_withdraw : OKS M_mM_withdraw := OK_seq (OK_sif (OK_not (OK_if (OK_cV (OK_rloc _) (OK_aI (OK_iloc _) (OK_aI (OK_iloc _) OK_anil))))) (OK_retI (OK_const _))) (OK_seq (OK_ast (OK_rald (OK_rfld (OK_rloc _)) (OK_iloc _))) (OK_seq (OK_ist (OK_econd (OK_icmp (OK_and (OK_shr (OK_ifld (OK_rloc _)) (OK_iloc _)) (OK_const _)) (OK_const _)) (OK_const _) (OK_const _))) (OK_seq (OK_seq (OK_ist (OK_const _)) (OK_whl (OK_icmp (OK_iloc _) (OK_ifld (OK_rloc _))) (OK_seq (OK_ist (OK_econd (OK_cand (OK_if (OK_iloc _)) (OK_not (OK_cand (OK_icmp (OK_and (OK_shr (OK_ifld (OK_rloc _)) (OK_iloc _)) (OK_const _)) (OK_const _)) (OK_if (OK_cV (OK_rloc _) (OK_aI (OK_iloc _) (OK_aI (OK_iloc _) OK_anil))))))) (OK_const _) (OK_const _))) OK_inc))) (OK_seq (OK_sif (OK_not (OK_if (OK_iloc _))) (OK_retI (OK_const _))) (OK_seq (OK_opf (by simp) (fun K pc env st h bd x y X hd k => J_ixor X hd k) (OK_rloc _) (OK_shl (OK_const _) (OK_iloc _))) (OK_retI (OK_ifld (OK_rloc _))))))))
theorem K_mM_withdraw : M_mM_withdraw.1 (10, (kini 1), prog_10_method_37_code, some (.int), 6) 0 = some (115, false, []) := by decide +kernel
theorem C_mM_withdraw {d mc ms : Nat} {av : List Value} {h : FH} {Rr : Option Value → FH → Prop} (hl : (lg_sl av).length ≤ 6) (body : ∀ g : GE, g.1 = d → M_mM_withdraw.2 g (fun _ _ _ => False) Rr (eent 6 av) h (mc, ms)) : Call 196 d av h mc ms Rr := call_of2 (k := 196) (own := 10) ((mtb_4 (i := 36) (by decide)).trans rfl) (by decide +kernel) rfl O_mM_withdraw K_mM_withdraw hl body
/-- method 197: EventStructuresModel.current(I)I -/
def M_mM_current : ST := s_retI (e_cond (c_b (e_cS Value.int 148 (aI1 (i_loc 1) a_nil))) (i_fld 9 5 (r_ald (r_fld 10 0 (r_loc 0)) (i_loc 1))) (i_const (-1)))
theorem O_mM_current : OKS M_mM_current := OK_retI (OK_econd (OK_if (OK_cS (OK_aI (OK_iloc _) OK_anil))) (OK_ifld (OK_rald (OK_rfld (OK_rloc _)) (OK_iloc _))) (OK_const _))
theorem K_mM_current : M_mM_current.1 (10, (kini 1), prog_10_method_38_code, some (.int), 2) 0 = some (21, false, []) := by decide +kernel
theorem C_mM_current {d mc ms : Nat} {av : List Value} {h : FH} {Rr : Option Value → FH → Prop} (hl : (lg_sl av).length ≤ 2) (body : ∀ g : GE, g.1 = d → M_mM_current.2 g (fun _ _ _ => False) Rr (eent 2 av) h (mc, ms)) : Call 197 d av h mc ms Rr := call_of2 (k := 197) (own := 10) ((mtb_4 (i := 37) (by decide)).trans rfl) (by decide +kernel) rfl O_mM_current K_mM_current hl body
/-- method 198: EventStructuresModel.areBisimilar(I)I -/
def M_mM_areBisimilar : ST := s_seq (s_if (c_not (c_b (e_cS Value.int 149 (aI1 (i_loc 1) (aI1 (i_const 0) (aI1 (i_const 1) a_nil)))))) (s_retI (i_const (-2))))
 (s_seq (s_cV 199 (r_loc 0) (aI1 (i_loc 1) a_nil))
 (s_retI (e_cond (c_if .eq (i_fld 10 11 (r_loc 0))) (i_const 1) (i_const 0))))
theorem O_mM_areBisimilar : OKS M_mM_areBisimilar := OK_seq (OK_sif (OK_not (OK_if (OK_cS (OK_aI (OK_iloc _) (OK_aI (OK_const _) (OK_aI (OK_const _) OK_anil)))))) (OK_retI (OK_const _))) (OK_seq (OK_scV (OK_rloc _) (OK_aI (OK_iloc _) OK_anil)) (OK_retI (OK_econd (OK_if (OK_ifld (OK_rloc _))) (OK_const _) (OK_const _))))
theorem K_mM_areBisimilar : M_mM_areBisimilar.1 (10, (kini 1), prog_10_method_43_code, some (.int), 2) 0 = some (30, false, []) := by decide +kernel
theorem C_mM_areBisimilar {d mc ms : Nat} {av : List Value} {h : FH} {Rr : Option Value → FH → Prop} (hl : (lg_sl av).length ≤ 2) (body : ∀ g : GE, g.1 = d → M_mM_areBisimilar.2 g (fun _ _ _ => False) Rr (eent 2 av) h (mc, ms)) : Call 198 d av h mc ms Rr := call_of2 (k := 198) (own := 10) ((mtb_4 (i := 38) (by decide)).trans rfl) (by decide +kernel) rfl O_mM_areBisimilar K_mM_areBisimilar hl body
/-- method 199: EventStructuresModel.compare(I)V -/
def M_mM_compare : ST := s_seq (s_cV 200 (r_loc 0) (aI1 (e_cond (c_icmp .eq (i_loc 1) (i_const 1)) (i_const 1) (i_const 0)) a_nil))
 (s_seq (s_putI 10 12 (r_loc 0) (i_const 1))
 (s_seq (s_putI 10 11 (r_loc 0) (i_const 0))
 (s_seq (s_putI 10 10 (r_loc 0) (i_const 0))
 (s_seq (s_ist 2 (i_const 1))
 (s_seq (s_whl (c_b (i_loc 2)) (s_seq (s_opf 10 10 .iadd (fun x y => x + y) (r_loc 0) (i_const 1))
 (s_seq (s_ist 3 (i_const 0))
 (s_seq (s_seq (s_ist 4 (i_const 0))
 (s_whl (c_icmp .lt (i_loc 4) (i_const 512)) (s_seq (s_seq (s_iast (r_fld 10 8 (r_loc 0)) (i_loc 4) (i_const (-1)))
 (s_seq (s_seq (s_ist 5 (i_const 0))
 (s_whl (c_and (c_and (c_icmp .lt (i_loc 5) (i_loc 3)) (c_if .ge (i_ald (r_fld 10 7 (r_loc 0)) (i_loc 4)))) (c_if .lt (i_ald (r_fld 10 8 (r_loc 0)) (i_loc 4)))) (s_seq (s_seq (s_ist 6 (i_ald (r_fld 10 9 (r_loc 0)) (i_loc 5)))
 (s_iast (r_fld 10 8 (r_loc 0)) (i_loc 4) (e_cond (c_and (c_and (c_icmp .eq (i_ald (r_fld 10 7 (r_loc 0)) (i_loc 4)) (i_ald (r_fld 10 7 (r_loc 0)) (i_loc 6))) (c_b (e_cV Value.int 202 (r_loc 0) (aI1 (i_loc 4) (aI1 (i_loc 6) a_nil))))) (c_b (e_cV Value.int 202 (r_loc 0) (aI1 (i_loc 6) (aI1 (i_loc 4) a_nil))))) (i_loc 5) (i_const (-1)))))
 (s_inc 5 1))))
 (s_if (c_and (c_if .ge (i_ald (r_fld 10 7 (r_loc 0)) (i_loc 4))) (c_if .lt (i_ald (r_fld 10 8 (r_loc 0)) (i_loc 4)))) (s_seq (s_iast (r_fld 10 9 (r_loc 0)) (i_loc 3) (i_loc 4))
 (s_seq (s_iast (r_fld 10 8 (r_loc 0)) (i_loc 4) (i_loc 3))
 (s_inc 3 1))))))
 (s_inc 4 1))))
 (s_seq (s_copyI (r_fld 10 8 (r_loc 0)) (i_const 0) (r_fld 10 7 (r_loc 0)) (i_const 0) (i_const 512))
 (s_seq (s_putI 10 11 (r_loc 0) (e_cond (c_and (c_if .eq (i_fld 10 11 (r_loc 0))) (c_icmp .ne (i_ald (r_fld 10 7 (r_loc 0)) (i_const 0)) (i_ald (r_fld 10 7 (r_loc 0)) (i_const 256)))) (i_fld 10 10 (r_loc 0)) (i_fld 10 11 (r_loc 0))))
 (s_seq (s_ist 2 (e_cond (c_icmp .gt (i_loc 3) (i_fld 10 12 (r_loc 0))) (i_const 1) (i_const 0)))
 (s_putI 10 12 (r_loc 0) (i_loc 3)))))))))
 s_ret)))))
theorem O_mM_compare : OKS M_mM_compare := OK_seq (OK_scV (OK_rloc _) (OK_aI (OK_econd (OK_icmp (OK_iloc _) (OK_const _)) (OK_const _) (OK_const _)) OK_anil)) (OK_seq (OK_putI (OK_rloc _) (OK_const _)) (OK_seq (OK_putI (OK_rloc _) (OK_const _)) (OK_seq (OK_putI (OK_rloc _) (OK_const _)) (OK_seq (OK_ist (OK_const _)) (OK_seq (OK_whl (OK_if (OK_iloc _)) (OK_seq (OK_opf (by simp) (fun K pc env st h bd x y X hd k => J_iadd X hd k) (OK_rloc _) (OK_const _)) (OK_seq (OK_ist (OK_const _)) (OK_seq (OK_seq (OK_ist (OK_const _)) (OK_whl (OK_icmp (OK_iloc _) (OK_const _)) (OK_seq (OK_seq (OK_siast (OK_rfld (OK_rloc _)) (OK_iloc _) (OK_const _)) (OK_seq (OK_seq (OK_ist (OK_const _)) (OK_whl (OK_cand (OK_cand (OK_icmp (OK_iloc _) (OK_iloc _)) (OK_if (OK_iald (OK_rfld (OK_rloc _)) (OK_iloc _)))) (OK_if (OK_iald (OK_rfld (OK_rloc _)) (OK_iloc _)))) (OK_seq (OK_seq (OK_ist (OK_iald (OK_rfld (OK_rloc _)) (OK_iloc _))) (OK_siast (OK_rfld (OK_rloc _)) (OK_iloc _) (OK_econd (OK_cand (OK_cand (OK_icmp (OK_iald (OK_rfld (OK_rloc _)) (OK_iloc _)) (OK_iald (OK_rfld (OK_rloc _)) (OK_iloc _))) (OK_if (OK_cV (OK_rloc _) (OK_aI (OK_iloc _) (OK_aI (OK_iloc _) OK_anil))))) (OK_if (OK_cV (OK_rloc _) (OK_aI (OK_iloc _) (OK_aI (OK_iloc _) OK_anil))))) (OK_iloc _) (OK_const _)))) OK_inc))) (OK_sif (OK_cand (OK_if (OK_iald (OK_rfld (OK_rloc _)) (OK_iloc _))) (OK_if (OK_iald (OK_rfld (OK_rloc _)) (OK_iloc _)))) (OK_seq (OK_siast (OK_rfld (OK_rloc _)) (OK_iloc _) (OK_iloc _)) (OK_seq (OK_siast (OK_rfld (OK_rloc _)) (OK_iloc _) (OK_iloc _)) OK_inc))))) OK_inc))) (OK_seq (OK_copyI (OK_rfld (OK_rloc _)) (OK_const _) (OK_rfld (OK_rloc _)) (OK_const _) (OK_const _)) (OK_seq (OK_putI (OK_rloc _) (OK_econd (OK_cand (OK_if (OK_ifld (OK_rloc _))) (OK_icmp (OK_iald (OK_rfld (OK_rloc _)) (OK_const _)) (OK_iald (OK_rfld (OK_rloc _)) (OK_const _)))) (OK_ifld (OK_rloc _)) (OK_ifld (OK_rloc _)))) (OK_seq (OK_ist (OK_econd (OK_icmp (OK_iloc _) (OK_ifld (OK_rloc _))) (OK_const _) (OK_const _))) (OK_putI (OK_rloc _) (OK_iloc _))))))))) OK_ret)))))
theorem K_mM_compare : M_mM_compare.1 (10, (kini 1), prog_10_method_42_code, none, 7) 0 = some (285, false, []) := by decide +kernel
theorem C_mM_compare {d mc ms : Nat} {av : List Value} {h : FH} {Rr : Option Value → FH → Prop} (hl : (lg_sl av).length ≤ 7) (body : ∀ g : GE, g.1 = d → M_mM_compare.2 g (fun _ _ _ => False) Rr (eent 7 av) h (mc, ms)) : Call 199 d av h mc ms Rr := call_of2 (k := 199) (own := 10) ((mtb_4 (i := 39) (by decide)).trans rfl) (by decide +kernel) rfl O_mM_compare K_mM_compare hl body
/-- method 200: EventStructuresModel.findMoves(Z)V -/
def M_mM_findMoves : ST := s_seq (s_cV 184 (r_ald (r_fld 10 0 (r_loc 0)) (i_const 0)) a_nil)
 (s_seq (s_cV 184 (r_ald (r_fld 10 0 (r_loc 0)) (i_const 1)) a_nil)
 (s_seq (s_ist 2 (i_const 0))
 (s_seq (s_seq (s_ist 3 (i_const 0))
 (s_whl (c_icmp .lt (i_loc 3) (i_const 512)) (s_seq (s_seq (s_ast 4 (r_ald (r_fld 10 0 (r_loc 0)) (i_div (i_loc 3) (i_const 256))))
 (s_seq (s_ist 5 (i_rem (i_loc 3) (i_const 256)))
 (s_seq (s_iast (r_fld 10 4 (r_loc 0)) (i_loc 3) (i_loc 2))
 (s_seq (s_iast (r_fld 10 7 (r_loc 0)) (i_loc 3) (e_cond (c_b (e_cV Value.int 174 (r_loc 4) (aI1 (i_loc 5) a_nil))) (i_const 0) (i_const (-1))))
 (s_seq (s_ist 6 (e_cond (c_if .lt (i_ald (r_fld 10 7 (r_loc 0)) (i_loc 3))) (i_const 0) (e_cV Value.int 182 (r_loc 4) (aI1 (i_loc 5) a_nil))))
 (s_seq (s_ist 7 (i_loc 6))
 (s_whl (c_if .gt (i_loc 7)) (s_seq (s_if (c_and (c_or (c_if .eq (i_and (i_loc 7) (i_sub (i_loc 7) (i_const 1)))) (c_b (i_loc 1))) (c_b (e_cV Value.int 186 (r_loc 4) (aI1 (i_loc 7) a_nil)))) (s_seq (s_iast (r_fld 10 5 (r_loc 0)) (i_loc 2) (e_cS Value.int 201 (aR1 (r_loc 4) (aI1 (i_loc 7) a_nil))))
 (s_seq (s_iast (r_fld 10 6 (r_loc 0)) (i_loc 2) (i_add (i_loc 3) (i_loc 7)))
 (s_inc 2 1))))
 (s_ist 7 (i_and (i_sub (i_loc 7) (i_const 1)) (i_loc 6)))))))))))
 (s_inc 3 1))))
 (s_seq (s_iast (r_fld 10 4 (r_loc 0)) (i_const 512) (i_loc 2))
 s_ret))))
theorem O_mM_findMoves : OKS M_mM_findMoves := OK_seq (OK_scV (OK_rald (OK_rfld (OK_rloc _)) (OK_const _)) OK_anil) (OK_seq (OK_scV (OK_rald (OK_rfld (OK_rloc _)) (OK_const _)) OK_anil) (OK_seq (OK_ist (OK_const _)) (OK_seq (OK_seq (OK_ist (OK_const _)) (OK_whl (OK_icmp (OK_iloc _) (OK_const _)) (OK_seq (OK_seq (OK_ast (OK_rald (OK_rfld (OK_rloc _)) (OK_idiv (OK_iloc _) (OK_const _)))) (OK_seq (OK_ist (OK_irem (OK_iloc _) (OK_const _))) (OK_seq (OK_siast (OK_rfld (OK_rloc _)) (OK_iloc _) (OK_iloc _)) (OK_seq (OK_siast (OK_rfld (OK_rloc _)) (OK_iloc _) (OK_econd (OK_if (OK_cV (OK_rloc _) (OK_aI (OK_iloc _) OK_anil))) (OK_const _) (OK_const _))) (OK_seq (OK_ist (OK_econd (OK_if (OK_iald (OK_rfld (OK_rloc _)) (OK_iloc _))) (OK_const _) (OK_cV (OK_rloc _) (OK_aI (OK_iloc _) OK_anil)))) (OK_seq (OK_ist (OK_iloc _)) (OK_whl (OK_if (OK_iloc _)) (OK_seq (OK_sif (OK_cand (OK_cor (OK_if (OK_and (OK_iloc _) (OK_sub (OK_iloc _) (OK_const _)))) (OK_if (OK_iloc _))) (OK_if (OK_cV (OK_rloc _) (OK_aI (OK_iloc _) OK_anil)))) (OK_seq (OK_siast (OK_rfld (OK_rloc _)) (OK_iloc _) (OK_cS (OK_aR (OK_rloc _) (OK_aI (OK_iloc _) OK_anil)))) (OK_seq (OK_siast (OK_rfld (OK_rloc _)) (OK_iloc _) (OK_add (OK_iloc _) (OK_iloc _))) OK_inc))) (OK_ist (OK_and (OK_sub (OK_iloc _) (OK_const _)) (OK_iloc _))))))))))) OK_inc))) (OK_seq (OK_siast (OK_rfld (OK_rloc _)) (OK_const _) (OK_iloc _)) OK_ret))))
theorem K_mM_findMoves : M_mM_findMoves.1 (10, (kini 1), prog_10_method_40_code, none, 8) 0 = some (185, false, []) := by decide +kernel
theorem C_mM_findMoves {d mc ms : Nat} {av : List Value} {h : FH} {Rr : Option Value → FH → Prop} (hl : (lg_sl av).length ≤ 8) (body : ∀ g : GE, g.1 = d → M_mM_findMoves.2 g (fun _ _ _ => False) Rr (eent 8 av) h (mc, ms)) : Call 200 d av h mc ms Rr := call_of2 (k := 200) (own := 10) ((mtb_5 (i := 0) (by decide)).trans rfl) (by decide +kernel) rfl O_mM_findMoves K_mM_findMoves hl body
/-- method 201: EventStructuresModel.nameOf(LEventStructuresModel$Structure;I)I -/
def M_mM_nameOf : ST := s_seq (s_ist 2 (i_const 0))
 (s_seq (s_seq (s_ist 3 (i_const 0))
 (s_whl (c_icmp .lt (i_loc 3) (i_fld 9 0 (r_loc 0))) (s_seq (s_seq (s_ist 4 (i_const 1))
 (s_seq (s_seq (s_ist 5 (i_const 0))
 (s_whl (c_icmp .lt (i_loc 5) (i_ald (r_fld 9 1 (r_loc 0)) (i_loc 3))) (s_seq (s_ist 4 (i_mul (i_loc 4) (i_const 9)))
 (s_inc 5 1))))
 (s_ist 2 (i_add (i_loc 2) (e_cond (c_icmp .eq (i_and (i_shr (i_loc 1) (i_loc 3)) (i_const 1)) (i_const 1)) (i_loc 4) (i_const 0))))))
 (s_inc 3 1))))
 (s_retI (i_loc 2)))
theorem O_mM_nameOf : OKS M_mM_nameOf := OK_seq (OK_ist (OK_const _)) (OK_seq (OK_seq (OK_ist (OK_const _)) (OK_whl (OK_icmp (OK_iloc _) (OK_ifld (OK_rloc _))) (OK_seq (OK_seq (OK_ist (OK_const _)) (OK_seq (OK_seq (OK_ist (OK_const _)) (OK_whl (OK_icmp (OK_iloc _) (OK_iald (OK_rfld (OK_rloc _)) (OK_iloc _))) (OK_seq (OK_ist (OK_mul (OK_iloc _) (OK_const _))) OK_inc))) (OK_ist (OK_add (OK_iloc _) (OK_econd (OK_icmp (OK_and (OK_shr (OK_iloc _) (OK_iloc _)) (OK_const _)) (OK_const _)) (OK_iloc _) (OK_const _)))))) OK_inc))) (OK_retI (OK_iloc _)))
theorem K_mM_nameOf : M_mM_nameOf.1 (10, (kini 0), prog_10_method_39_code, some (.int), 6) 0 = some (68, false, []) := by decide +kernel
theorem C_mM_nameOf {d mc ms : Nat} {av : List Value} {h : FH} {Rr : Option Value → FH → Prop} (hl : (lg_sl av).length ≤ 6) (body : ∀ g : GE, g.1 = d → M_mM_nameOf.2 g (fun _ _ _ => False) Rr (eent 6 av) h (mc, ms)) : Call 201 d av h mc ms Rr := call_of2 (k := 201) (own := 10) ((mtb_5 (i := 1) (by decide)).trans rfl) (by decide +kernel) rfl O_mM_nameOf K_mM_nameOf hl body
/-- method 202: EventStructuresModel.follows(II)Z -/
def M_mM_follows : ST := s_seq (s_seq (s_ist 3 (i_ald (r_fld 10 4 (r_loc 0)) (i_loc 1)))
 (s_whl (c_icmp .lt (i_loc 3) (i_ald (r_fld 10 4 (r_loc 0)) (i_add (i_loc 1) (i_const 1)))) (s_seq (s_seq (s_ist 4 (i_const 0))
 (s_seq (s_seq (s_ist 5 (i_ald (r_fld 10 4 (r_loc 0)) (i_loc 2)))
 (s_whl (c_and (c_icmp .lt (i_loc 5) (i_ald (r_fld 10 4 (r_loc 0)) (i_add (i_loc 2) (i_const 1)))) (c_not (c_b (i_loc 4)))) (s_seq (s_ist 4 (e_cond (c_and (c_icmp .eq (i_ald (r_fld 10 5 (r_loc 0)) (i_loc 3)) (i_ald (r_fld 10 5 (r_loc 0)) (i_loc 5))) (c_icmp .eq (i_ald (r_fld 10 7 (r_loc 0)) (i_ald (r_fld 10 6 (r_loc 0)) (i_loc 3))) (i_ald (r_fld 10 7 (r_loc 0)) (i_ald (r_fld 10 6 (r_loc 0)) (i_loc 5))))) (i_const 1) (i_const 0)))
 (s_inc 5 1))))
 (s_if (c_not (c_b (i_loc 4))) (s_retZ (i_const 0)))))
 (s_inc 3 1))))
 (s_retZ (i_const 1))
theorem O_mM_follows : OKS M_mM_follows := OK_seq (OK_seq (OK_ist (OK_iald (OK_rfld (OK_rloc _)) (OK_iloc _))) (OK_whl (OK_icmp (OK_iloc _) (OK_iald (OK_rfld (OK_rloc _)) (OK_add (OK_iloc _) (OK_const _)))) (OK_seq (OK_seq (OK_ist (OK_const _)) (OK_seq (OK_seq (OK_ist (OK_iald (OK_rfld (OK_rloc _)) (OK_iloc _))) (OK_whl (OK_cand (OK_icmp (OK_iloc _) (OK_iald (OK_rfld (OK_rloc _)) (OK_add (OK_iloc _) (OK_const _)))) (OK_not (OK_if (OK_iloc _)))) (OK_seq (OK_ist (OK_econd (OK_cand (OK_icmp (OK_iald (OK_rfld (OK_rloc _)) (OK_iloc _)) (OK_iald (OK_rfld (OK_rloc _)) (OK_iloc _))) (OK_icmp (OK_iald (OK_rfld (OK_rloc _)) (OK_iald (OK_rfld (OK_rloc _)) (OK_iloc _))) (OK_iald (OK_rfld (OK_rloc _)) (OK_iald (OK_rfld (OK_rloc _)) (OK_iloc _))))) (OK_const _) (OK_const _))) OK_inc))) (OK_sif (OK_not (OK_if (OK_iloc _))) (OK_retZ (OK_const _))))) OK_inc))) (OK_retZ (OK_const _))
theorem K_mM_follows : M_mM_follows.1 (10, (kini 1), prog_10_method_41_code, some (.boolean), 6) 0 = some (118, false, []) := by decide +kernel
theorem C_mM_follows {d mc ms : Nat} {av : List Value} {h : FH} {Rr : Option Value → FH → Prop} (hl : (lg_sl av).length ≤ 6) (body : ∀ g : GE, g.1 = d → M_mM_follows.2 g (fun _ _ _ => False) Rr (eent 6 av) h (mc, ms)) : Call 202 d av h mc ms Rr := call_of2 (k := 202) (own := 10) ((mtb_5 (i := 2) (by decide)).trans rfl) (by decide +kernel) rfl O_mM_follows K_mM_follows hl body
/-- method 203: EventStructuresModel.separationRound(I)I -/
def M_mM_separationRound : ST := s_seq (s_if (c_not (c_b (e_cS Value.int 149 (aI1 (i_loc 1) (aI1 (i_const 0) (aI1 (i_const 1) a_nil)))))) (s_retI (i_const (-2))))
 (s_seq (s_cV 199 (r_loc 0) (aI1 (i_loc 1) a_nil))
 (s_retI (e_cond (c_if .eq (i_fld 10 11 (r_loc 0))) (i_const (-7)) (i_fld 10 11 (r_loc 0)))))
theorem O_mM_separationRound : OKS M_mM_separationRound := OK_seq (OK_sif (OK_not (OK_if (OK_cS (OK_aI (OK_iloc _) (OK_aI (OK_const _) (OK_aI (OK_const _) OK_anil)))))) (OK_retI (OK_const _))) (OK_seq (OK_scV (OK_rloc _) (OK_aI (OK_iloc _) OK_anil)) (OK_retI (OK_econd (OK_if (OK_ifld (OK_rloc _))) (OK_const _) (OK_ifld (OK_rloc _)))))
theorem K_mM_separationRound : M_mM_separationRound.1 (10, (kini 1), prog_10_method_44_code, some (.int), 2) 0 = some (34, false, []) := by decide +kernel
theorem C_mM_separationRound {d mc ms : Nat} {av : List Value} {h : FH} {Rr : Option Value → FH → Prop} (hl : (lg_sl av).length ≤ 2) (body : ∀ g : GE, g.1 = d → M_mM_separationRound.2 g (fun _ _ _ => False) Rr (eent 2 av) h (mc, ms)) : Call 203 d av h mc ms Rr := call_of2 (k := 203) (own := 10) ((mtb_5 (i := 3) (by decide)).trans rfl) (by decide +kernel) rfl O_mM_separationRound K_mM_separationRound hl body
/-- method 204: EventStructuresModel.equivalenceClasses(I)I -/
def M_mM_equivalenceClasses : ST := s_seq (s_if (c_not (c_b (e_cS Value.int 149 (aI1 (i_loc 1) (aI1 (i_const 0) (aI1 (i_const 1) a_nil)))))) (s_retI (i_const (-2))))
 (s_seq (s_cV 199 (r_loc 0) (aI1 (i_loc 1) a_nil))
 (s_retI (i_fld 10 12 (r_loc 0))))
theorem O_mM_equivalenceClasses : OKS M_mM_equivalenceClasses := OK_seq (OK_sif (OK_not (OK_if (OK_cS (OK_aI (OK_iloc _) (OK_aI (OK_const _) (OK_aI (OK_const _) OK_anil)))))) (OK_retI (OK_const _))) (OK_seq (OK_scV (OK_rloc _) (OK_aI (OK_iloc _) OK_anil)) (OK_retI (OK_ifld (OK_rloc _))))
theorem K_mM_equivalenceClasses : M_mM_equivalenceClasses.1 (10, (kini 1), prog_10_method_45_code, some (.int), 2) 0 = some (22, false, []) := by decide +kernel
theorem C_mM_equivalenceClasses {d mc ms : Nat} {av : List Value} {h : FH} {Rr : Option Value → FH → Prop} (hl : (lg_sl av).length ≤ 2) (body : ∀ g : GE, g.1 = d → M_mM_equivalenceClasses.2 g (fun _ _ _ => False) Rr (eent 2 av) h (mc, ms)) : Call 204 d av h mc ms Rr := call_of2 (k := 204) (own := 10) ((mtb_5 (i := 4) (by decide)).trans rfl) (by decide +kernel) rfl O_mM_equivalenceClasses K_mM_equivalenceClasses hl body
/-- method 205: EventStructuresModel.wordDifferenceLength()I -/
def M_mM_wordDifferenceLength : ST := s_retI (e_cV Value.int 206 (r_loc 0) a_nil)
theorem O_mM_wordDifferenceLength : OKS M_mM_wordDifferenceLength := OK_retI (OK_cV (OK_rloc _) OK_anil)
theorem K_mM_wordDifferenceLength : M_mM_wordDifferenceLength.1 (10, (kini 1), prog_10_method_49_code, some (.int), 1) 0 = some (5, false, []) := by decide +kernel
theorem C_mM_wordDifferenceLength {d mc ms : Nat} {av : List Value} {h : FH} {Rr : Option Value → FH → Prop} (hl : (lg_sl av).length ≤ 1) (body : ∀ g : GE, g.1 = d → M_mM_wordDifferenceLength.2 g (fun _ _ _ => False) Rr (eent 1 av) h (mc, ms)) : Call 205 d av h mc ms Rr := call_of2 (k := 205) (own := 10) ((mtb_5 (i := 5) (by decide)).trans rfl) (by decide +kernel) rfl O_mM_wordDifferenceLength K_mM_wordDifferenceLength hl body
/-- method 206: EventStructuresModel.differ()I -/
def M_mM_differ : ST := s_seq (s_cV 207 (r_loc 0) (aI1 (i_const 1) (aI1 (i_const 1) a_nil)))
 (s_seq (s_seq (s_ist 1 (i_const 0))
 (s_whl (c_icmp .lt (i_loc 1) (i_const 8)) (s_seq (s_seq (s_ast 2 (r_ald (r_fld 10 13 (r_loc 0)) (i_rem (i_loc 1) (i_const 2))))
 (s_seq (s_ast 3 (r_ald (r_fld 10 13 (r_loc 0)) (i_sub (i_const 1) (i_rem (i_loc 1) (i_const 2)))))
 (s_seq (s_cV 208 (r_loc 3) a_nil)
 (s_seq (s_ist 4 (i_const 0))
 (s_whl (c_icmp .lt (i_loc 4) (i_fld 8 3 (r_loc 2))) (s_seq (s_seq (s_ist 5 (i_const 0))
 (s_whl (c_icmp .lt (i_loc 5) (i_const 6)) (s_seq (s_seq (s_ist 6 (e_cV Value.int 211 (r_loc 0) (aR1 (r_loc 2) (aI1 (i_loc 4) (aI1 (i_loc 5) a_nil)))))
 (s_seq (s_if (c_or (c_icmp .eq (i_loc 6) (i_const 1)) (c_icmp .eq (i_loc 6) (i_const 2))) (s_seq (s_seq (s_ist 7 (i_const 0))
 (s_whl (c_icmp .lt (i_loc 7) (i_loc 1)) (s_seq (s_iast (r_fld 10 15 (r_loc 0)) (i_loc 7) (i_ald (r_fld 8 1 (r_loc 2)) (i_add (i_mul (i_const 8) (i_loc 4)) (i_loc 7))))
 (s_inc 7 1))))
 (s_seq (s_iast (r_fld 10 15 (r_loc 0)) (i_loc 1) (i_loc 5))
 (s_retI (i_add (i_loc 1) (i_const 1))))))
 (s_if (c_icmp .eq (i_loc 6) (i_const 3)) (s_cV 209 (r_loc 3) (aR1 (r_fld 10 14 (r_loc 0)) (aR1 (r_loc 2) (aI1 (i_loc 4) (aI1 (i_loc 1) (aI1 (i_loc 5) (aI1 (i_const 1) a_nil))))))))))
 (s_inc 5 1))))
 (s_inc 4 1)))))))
 (s_inc 1 1))))
 (s_retI (i_const (-7))))
theorem O_mM_differ : OKS M_mM_differ := OK_seq (OK_scV (OK_rloc _) (OK_aI (OK_const _) (OK_aI (OK_const _) OK_anil))) (OK_seq (OK_seq (OK_ist (OK_const _)) (OK_whl (OK_icmp (OK_iloc _) (OK_const _)) (OK_seq (OK_seq (OK_ast (OK_rald (OK_rfld (OK_rloc _)) (OK_irem (OK_iloc _) (OK_const _)))) (OK_seq (OK_ast (OK_rald (OK_rfld (OK_rloc _)) (OK_sub (OK_const _) (OK_irem (OK_iloc _) (OK_const _))))) (OK_seq (OK_scV (OK_rloc _) OK_anil) (OK_seq (OK_ist (OK_const _)) (OK_whl (OK_icmp (OK_iloc _) (OK_ifld (OK_rloc _))) (OK_seq (OK_seq (OK_ist (OK_const _)) (OK_whl (OK_icmp (OK_iloc _) (OK_const _)) (OK_seq (OK_seq (OK_ist (OK_cV (OK_rloc _) (OK_aR (OK_rloc _) (OK_aI (OK_iloc _) (OK_aI (OK_iloc _) OK_anil))))) (OK_seq (OK_sif (OK_cor (OK_icmp (OK_iloc _) (OK_const _)) (OK_icmp (OK_iloc _) (OK_const _))) (OK_seq (OK_seq (OK_ist (OK_const _)) (OK_whl (OK_icmp (OK_iloc _) (OK_iloc _)) (OK_seq (OK_siast (OK_rfld (OK_rloc _)) (OK_iloc _) (OK_iald (OK_rfld (OK_rloc _)) (OK_add (OK_mul (OK_const _) (OK_iloc _)) (OK_iloc _)))) OK_inc))) (OK_seq (OK_siast (OK_rfld (OK_rloc _)) (OK_iloc _) (OK_iloc _)) (OK_retI (OK_add (OK_iloc _) (OK_const _)))))) (OK_sif (OK_icmp (OK_iloc _) (OK_const _)) (OK_scV (OK_rloc _) (OK_aR (OK_rfld (OK_rloc _)) (OK_aR (OK_rloc _) (OK_aI (OK_iloc _) (OK_aI (OK_iloc _) (OK_aI (OK_iloc _) (OK_aI (OK_const _) OK_anil)))))))))) OK_inc))) OK_inc)))))) OK_inc))) (OK_retI (OK_const _)))
theorem K_mM_differ : M_mM_differ.1 (10, (kini 1), prog_10_method_48_code, some (.int), 8) 0 = some (172, false, []) := by decide +kernel
theorem C_mM_differ {d mc ms : Nat} {av : List Value} {h : FH} {Rr : Option Value → FH → Prop} (hl : (lg_sl av).length ≤ 8) (body : ∀ g : GE, g.1 = d → M_mM_differ.2 g (fun _ _ _ => False) Rr (eent 8 av) h (mc, ms)) : Call 206 d av h mc ms Rr := call_of2 (k := 206) (own := 10) ((mtb_5 (i := 6) (by decide)).trans rfl) (by decide +kernel) rfl O_mM_differ K_mM_differ hl body
/-- method 207: EventStructuresModel.begin(ZZ)V -/
def M_mM_begin : ST := s_seq (s_cV 208 (r_ald (r_fld 10 13 (r_loc 0)) (i_const 0)) a_nil)
 (s_seq (s_seq (s_ist 3 (i_const 0))
 (s_whl (c_icmp .lt (i_loc 3) (i_const 8)) (s_seq (s_last (r_fld 10 14 (r_loc 0)) (i_loc 3) (l_const 0))
 (s_inc 3 1))))
 (s_seq (s_last (r_fld 10 14 (r_loc 0)) (i_const 0) (e_cond (c_b (i_loc 1)) (l_const 1) (l_const 0)))
 (s_seq (s_last (r_fld 10 14 (r_loc 0)) (i_const 4) (e_cond (c_b (i_loc 2)) (l_const 1) (l_const 0)))
 (s_seq (s_cV 209 (r_ald (r_fld 10 13 (r_loc 0)) (i_const 0)) (aR1 (r_fld 10 14 (r_loc 0)) (aR1 (r_ald (r_fld 10 13 (r_loc 0)) (i_const 1)) (aI1 (i_const 0) (aI1 (i_const 0) (aI1 (i_const (-1)) (aI1 (i_const 1) a_nil)))))))
 s_ret))))
theorem O_mM_begin : OKS M_mM_begin := OK_seq (OK_scV (OK_rald (OK_rfld (OK_rloc _)) (OK_const _)) OK_anil) (OK_seq (OK_seq (OK_ist (OK_const _)) (OK_whl (OK_icmp (OK_iloc _) (OK_const _)) (OK_seq (OK_slast (OK_rfld (OK_rloc _)) (OK_iloc _) (OK_lconst _)) OK_inc))) (OK_seq (OK_slast (OK_rfld (OK_rloc _)) (OK_const _) (OK_econd (OK_if (OK_iloc _)) (OK_lconst _) (OK_lconst _))) (OK_seq (OK_slast (OK_rfld (OK_rloc _)) (OK_const _) (OK_econd (OK_if (OK_iloc _)) (OK_lconst _) (OK_lconst _))) (OK_seq (OK_scV (OK_rald (OK_rfld (OK_rloc _)) (OK_const _)) (OK_aR (OK_rfld (OK_rloc _)) (OK_aR (OK_rald (OK_rfld (OK_rloc _)) (OK_const _)) (OK_aI (OK_const _) (OK_aI (OK_const _) (OK_aI (OK_const _) (OK_aI (OK_const _) OK_anil))))))) OK_ret))))
theorem K_mM_begin : M_mM_begin.1 (10, (kini 1), prog_10_method_46_code, none, 4) 0 = some (84, false, []) := by decide +kernel
theorem C_mM_begin {d mc ms : Nat} {av : List Value} {h : FH} {Rr : Option Value → FH → Prop} (hl : (lg_sl av).length ≤ 4) (body : ∀ g : GE, g.1 = d → M_mM_begin.2 g (fun _ _ _ => False) Rr (eent 4 av) h (mc, ms)) : Call 207 d av h mc ms Rr := call_of2 (k := 207) (own := 10) ((mtb_5 (i := 7) (by decide)).trans rfl) (by decide +kernel) rfl O_mM_begin K_mM_begin hl body
/-- method 211: EventStructuresModel.go(LEventStructuresModel$Layer;II)I -/
def M_mM_go : ST := s_seq (s_ist 4 (i_const 0))
 (s_seq (s_seq (s_ist 5 (i_const 0))
 (s_whl (c_icmp .lt (i_loc 5) (i_const 8)) (s_seq (s_last (r_fld 10 14 (r_loc 0)) (i_loc 5) (l_const 0))
 (s_inc 5 1))))
 (s_seq (s_seq (s_ist 5 (i_const 0))
 (s_whl (c_icmp .lt (i_loc 5) (i_const 512)) (s_seq (s_if (c_lcmp .eq (l_and (l_shr (l_ald (r_fld 8 0 (r_loc 1)) (i_add (i_mul (i_const 8) (i_loc 2)) (i_div (i_loc 5) (i_const 64)))) (i_rem (i_loc 5) (i_const 64))) (l_const 1)) (l_const 1)) (s_seq (s_ast 6 (r_ald (r_fld 10 0 (r_loc 0)) (i_div (i_loc 5) (i_const 256))))
 (s_seq (s_ist 7 (e_cV Value.int 182 (r_loc 6) (aI1 (i_rem (i_loc 5) (i_const 256)) a_nil)))
 (s_seq (s_ist 8 (i_const 0))
 (s_whl (c_icmp .lt (i_loc 8) (i_fld 9 0 (r_loc 6))) (s_seq (s_if (c_and (c_icmp .eq (i_and (i_shr (i_loc 7) (i_loc 8)) (i_const 1)) (i_const 1)) (c_icmp .eq (i_ald (r_fld 9 1 (r_loc 6)) (i_loc 8)) (i_loc 3))) (s_seq (s_ist 9 (i_add (i_loc 5) (i_shl (i_const 1) (i_loc 8))))
 (s_seq (s_opaL .lor (fun x y => x ||| y) (r_fld 10 14 (r_loc 0)) (i_div (i_loc 9) (i_const 64)) (l_shl (l_const 1) (i_rem (i_loc 9) (i_const 64))))
 (s_ist 4 (i_or (i_loc 4) (i_shl (i_const 1) (i_div (i_loc 5) (i_const 256))))))))
 (s_inc 8 1)))))))
 (s_inc 5 1))))
 (s_retI (i_loc 4))))
theorem O_mM_go : OKS M_mM_go := OK_seq (OK_ist (OK_const _)) (OK_seq (OK_seq (OK_ist (OK_const _)) (OK_whl (OK_icmp (OK_iloc _) (OK_const _)) (OK_seq (OK_slast (OK_rfld (OK_rloc _)) (OK_iloc _) (OK_lconst _)) OK_inc))) (OK_seq (OK_seq (OK_ist (OK_const _)) (OK_whl (OK_icmp (OK_iloc _) (OK_const _)) (OK_seq (OK_sif (OK_lcmp (OK_land (OK_lshr (OK_lald (OK_rfld (OK_rloc _)) (OK_add (OK_mul (OK_const _) (OK_iloc _)) (OK_idiv (OK_iloc _) (OK_const _)))) (OK_irem (OK_iloc _) (OK_const _))) (OK_lconst _)) (OK_lconst _)) (OK_seq (OK_ast (OK_rald (OK_rfld (OK_rloc _)) (OK_idiv (OK_iloc _) (OK_const _)))) (OK_seq (OK_ist (OK_cV (OK_rloc _) (OK_aI (OK_irem (OK_iloc _) (OK_const _)) OK_anil))) (OK_seq (OK_ist (OK_const _)) (OK_whl (OK_icmp (OK_iloc _) (OK_ifld (OK_rloc _))) (OK_seq (OK_sif (OK_cand (OK_icmp (OK_and (OK_shr (OK_iloc _) (OK_iloc _)) (OK_const _)) (OK_const _)) (OK_icmp (OK_iald (OK_rfld (OK_rloc _)) (OK_iloc _)) (OK_iloc _))) (OK_seq (OK_ist (OK_add (OK_iloc _) (OK_shl (OK_const _) (OK_iloc _)))) (OK_seq (OK_opaL (by simp) (fun K pc env st h bd x y X hd k => J_lor X hd k) (OK_rfld (OK_rloc _)) (OK_idiv (OK_iloc _) (OK_const _)) (OK_lshl (OK_lconst _) (OK_irem (OK_iloc _) (OK_const _)))) (OK_ist (OK_or (OK_iloc _) (OK_shl (OK_const _) (OK_idiv (OK_iloc _) (OK_const _)))))))) OK_inc)))))) OK_inc))) (OK_retI (OK_iloc _))))
theorem K_mM_go : M_mM_go.1 (10, (kini 1), prog_10_method_47_code, some (.int), 10) 0 = some (185, false, []) := by decide +kernel
theorem C_mM_go {d mc ms : Nat} {av : List Value} {h : FH} {Rr : Option Value → FH → Prop} (hl : (lg_sl av).length ≤ 10) (body : ∀ g : GE, g.1 = d → M_mM_go.2 g (fun _ _ _ => False) Rr (eent 10 av) h (mc, ms)) : Call 211 d av h mc ms Rr := call_of2 (k := 211) (own := 10) ((mtb_5 (i := 11) (by decide)).trans rfl) (by decide +kernel) rfl O_mM_go K_mM_go hl body
/-- method 212: EventStructuresModel.wordDifferenceLabel(I)I -/
def M_mM_wordDifferenceLabel : ST := s_retI (e_cond (c_b (e_cS Value.int 149 (aI1 (i_loc 1) (aI1 (i_const 0) (aI1 (i_sub (e_cV Value.int 206 (r_loc 0) a_nil) (i_const 1)) a_nil))))) (i_ald (r_fld 10 15 (r_loc 0)) (i_loc 1)) (i_const (-7)))
theorem O_mM_wordDifferenceLabel : OKS M_mM_wordDifferenceLabel := OK_retI (OK_econd (OK_if (OK_cS (OK_aI (OK_iloc _) (OK_aI (OK_const _) (OK_aI (OK_sub (OK_cV (OK_rloc _) OK_anil) (OK_const _)) OK_anil))))) (OK_iald (OK_rfld (OK_rloc _)) (OK_iloc _)) (OK_const _))
theorem K_mM_wordDifferenceLabel : M_mM_wordDifferenceLabel.1 (10, (kini 1), prog_10_method_50_code, some (.int), 2) 0 = some (26, false, []) := by decide +kernel
theorem C_mM_wordDifferenceLabel {d mc ms : Nat} {av : List Value} {h : FH} {Rr : Option Value → FH → Prop} (hl : (lg_sl av).length ≤ 2) (body : ∀ g : GE, g.1 = d → M_mM_wordDifferenceLabel.2 g (fun _ _ _ => False) Rr (eent 2 av) h (mc, ms)) : Call 212 d av h mc ms Rr := call_of2 (k := 212) (own := 10) ((mtb_5 (i := 12) (by decide)).trans rfl) (by decide +kernel) rfl O_mM_wordDifferenceLabel K_mM_wordDifferenceLabel hl body
/-- method 213: EventStructuresModel.wordCount(I)I -/
def M_mM_wordCount : ST := s_seq (s_if (c_not (c_b (e_cS Value.int 148 (aI1 (i_loc 1) a_nil)))) (s_retI (i_const (-1))))
 (s_seq (s_cV 207 (r_loc 0) (aI1 (e_cond (c_if .eq (i_loc 1)) (i_const 1) (i_const 0)) (aI1 (e_cond (c_icmp .eq (i_loc 1) (i_const 1)) (i_const 1) (i_const 0)) a_nil)))
 (s_seq (s_ist 2 (i_const 1))
 (s_seq (s_seq (s_ist 3 (i_const 0))
 (s_whl (c_icmp .lt (i_loc 3) (i_const 8)) (s_seq (s_seq (s_ast 4 (r_ald (r_fld 10 13 (r_loc 0)) (i_rem (i_loc 3) (i_const 2))))
 (s_seq (s_ast 5 (r_ald (r_fld 10 13 (r_loc 0)) (i_sub (i_const 1) (i_rem (i_loc 3) (i_const 2)))))
 (s_seq (s_cV 208 (r_loc 5) a_nil)
 (s_seq (s_ist 6 (i_const 0))
 (s_whl (c_icmp .lt (i_loc 6) (i_fld 8 3 (r_loc 4))) (s_seq (s_seq (s_ist 7 (i_const 0))
 (s_whl (c_icmp .lt (i_loc 7) (i_const 6)) (s_seq (s_if (c_if .ne (e_cV Value.int 211 (r_loc 0) (aR1 (r_loc 4) (aI1 (i_loc 6) (aI1 (i_loc 7) a_nil))))) (s_seq (s_cV 209 (r_loc 5) (aR1 (r_fld 10 14 (r_loc 0)) (aR1 (r_loc 4) (aI1 (i_loc 6) (aI1 (i_loc 3) (aI1 (i_loc 7) (aI1 (i_ald (r_fld 8 2 (r_loc 4)) (i_loc 6)) a_nil)))))))
 (s_ist 2 (i_add (i_loc 2) (i_ald (r_fld 8 2 (r_loc 4)) (i_loc 6))))))
 (s_inc 7 1))))
 (s_inc 6 1)))))))
 (s_inc 3 1))))
 (s_retI (i_loc 2)))))
theorem O_mM_wordCount : OKS M_mM_wordCount := OK_seq (OK_sif (OK_not (OK_if (OK_cS (OK_aI (OK_iloc _) OK_anil)))) (OK_retI (OK_const _))) (OK_seq (OK_scV (OK_rloc _) (OK_aI (OK_econd (OK_if (OK_iloc _)) (OK_const _) (OK_const _)) (OK_aI (OK_econd (OK_icmp (OK_iloc _) (OK_const _)) (OK_const _) (OK_const _)) OK_anil))) (OK_seq (OK_ist (OK_const _)) (OK_seq (OK_seq (OK_ist (OK_const _)) (OK_whl (OK_icmp (OK_iloc _) (OK_const _)) (OK_seq (OK_seq (OK_ast (OK_rald (OK_rfld (OK_rloc _)) (OK_irem (OK_iloc _) (OK_const _)))) (OK_seq (OK_ast (OK_rald (OK_rfld (OK_rloc _)) (OK_sub (OK_const _) (OK_irem (OK_iloc _) (OK_const _))))) (OK_seq (OK_scV (OK_rloc _) OK_anil) (OK_seq (OK_ist (OK_const _)) (OK_whl (OK_icmp (OK_iloc _) (OK_ifld (OK_rloc _))) (OK_seq (OK_seq (OK_ist (OK_const _)) (OK_whl (OK_icmp (OK_iloc _) (OK_const _)) (OK_seq (OK_sif (OK_if (OK_cV (OK_rloc _) (OK_aR (OK_rloc _) (OK_aI (OK_iloc _) (OK_aI (OK_iloc _) OK_anil))))) (OK_seq (OK_scV (OK_rloc _) (OK_aR (OK_rfld (OK_rloc _)) (OK_aR (OK_rloc _) (OK_aI (OK_iloc _) (OK_aI (OK_iloc _) (OK_aI (OK_iloc _) (OK_aI (OK_iald (OK_rfld (OK_rloc _)) (OK_iloc _)) OK_anil))))))) (OK_ist (OK_add (OK_iloc _) (OK_iald (OK_rfld (OK_rloc _)) (OK_iloc _)))))) OK_inc))) OK_inc)))))) OK_inc))) (OK_retI (OK_iloc _)))))
theorem K_mM_wordCount : M_mM_wordCount.1 (10, (kini 1), prog_10_method_51_code, some (.int), 8) 0 = some (160, false, []) := by decide +kernel
theorem C_mM_wordCount {d mc ms : Nat} {av : List Value} {h : FH} {Rr : Option Value → FH → Prop} (hl : (lg_sl av).length ≤ 8) (body : ∀ g : GE, g.1 = d → M_mM_wordCount.2 g (fun _ _ _ => False) Rr (eent 8 av) h (mc, ms)) : Call 213 d av h mc ms Rr := call_of2 (k := 213) (own := 10) ((mtb_5 (i := 13) (by decide)).trans rfl) (by decide +kernel) rfl O_mM_wordCount K_mM_wordCount hl body
/-- method 214: EventStructuresModel.refine(IIIIZ)I -/
def M_mM_refine : ST := s_seq (s_if (c_not (c_b (e_cS Value.int 148 (aI1 (i_loc 1) a_nil)))) (s_retI (i_const (-1))))
 (s_seq (s_if (c_or (c_or (c_not (c_b (e_cS Value.int 150 (aI1 (i_loc 2) a_nil)))) (c_not (c_b (e_cS Value.int 150 (aI1 (i_loc 3) a_nil))))) (c_not (c_b (e_cS Value.int 150 (aI1 (i_loc 4) a_nil))))) (s_retI (i_const (-2))))
 (s_seq (s_ast 6 (r_ald (r_fld 10 0 (r_loc 0)) (i_loc 1)))
 (s_seq (s_ist 7 (i_const 0))
 (s_seq (s_seq (s_ist 8 (i_const 0))
 (s_whl (c_icmp .lt (i_loc 8) (i_fld 9 0 (r_loc 6))) (s_seq (s_ist 7 (i_add (i_loc 7) (e_cond (c_icmp .eq (i_ald (r_fld 9 1 (r_loc 6)) (i_loc 8)) (i_loc 2)) (i_const 1) (i_const 0))))
 (s_inc 8 1))))
 (s_seq (s_if (c_icmp .gt (i_add (i_fld 9 0 (r_loc 6)) (i_loc 7)) (i_const 8)) (s_retI (i_const (-6))))
 (s_seq (s_ast 8 (r_new 9 145 a_nil))
 (s_seq (s_cV 163 (r_loc 8) (aR1 (r_loc 6) a_nil))
 (s_seq (s_ast 9 (r_newa .int (i_const 8)))
 (s_seq (s_putI 9 0 (r_loc 6) (i_const 0))
 (s_seq (s_seq (s_ist 10 (i_const 0))
 (s_whl (c_icmp .lt (i_loc 10) (i_fld 9 0 (r_loc 8))) (s_seq (s_seq (s_ist 11 (e_cond (c_icmp .eq (i_ald (r_fld 9 1 (r_loc 8)) (i_loc 10)) (i_loc 2)) (i_const 1) (i_const 0)))
 (s_seq (s_iast (r_loc 9) (i_fld 9 0 (r_loc 6)) (i_loc 10))
 (s_seq (s_cV 151 (r_loc 6) (aI1 (e_cond (c_b (i_loc 11)) (i_loc 3) (i_ald (r_fld 9 1 (r_loc 8)) (i_loc 10))) (aI1 (i_ald (r_fld 9 2 (r_loc 8)) (i_loc 10)) (aI1 (i_const 0) a_nil))))
 (s_if (c_b (i_loc 11)) (s_seq (s_iast (r_loc 9) (i_fld 9 0 (r_loc 6)) (i_loc 10))
 (s_cV 151 (r_loc 6) (aI1 (i_loc 4) (aI1 (i_ald (r_fld 9 2 (r_loc 8)) (i_loc 10)) (aI1 (i_const 0) a_nil)))))))))
 (s_inc 10 1))))
 (s_seq (s_seq (s_ist 10 (i_const 0))
 (s_whl (c_icmp .lt (i_loc 10) (i_fld 9 0 (r_loc 6))) (s_seq (s_seq (s_ist 11 (i_const 0))
 (s_whl (c_icmp .lt (i_loc 11) (i_fld 9 0 (r_loc 6))) (s_seq (s_seq (s_if (c_or (c_icmp .eq (i_and (i_shr (i_ald (r_fld 9 3 (r_loc 8)) (i_ald (r_loc 9) (i_loc 11))) (i_ald (r_loc 9) (i_loc 10))) (i_const 1)) (i_const 1)) (c_and (c_and (c_b (i_loc 5)) (c_icmp .eq (i_ald (r_loc 9) (i_loc 10)) (i_ald (r_loc 9) (i_loc 11)))) (c_icmp .lt (i_loc 10) (i_loc 11)))) (s_opaI .ior (fun x y => x ||| y) (r_fld 9 3 (r_loc 6)) (i_loc 11) (i_shl (i_const 1) (i_loc 10))))
 (s_if (c_icmp .eq (i_and (i_shr (i_ald (r_fld 9 4 (r_loc 8)) (i_ald (r_loc 9) (i_loc 11))) (i_ald (r_loc 9) (i_loc 10))) (i_const 1)) (i_const 1)) (s_cV 159 (r_loc 6) (aI1 (i_loc 10) (aI1 (i_loc 11) a_nil)))))
 (s_inc 11 1))))
 (s_inc 10 1))))
 (s_seq (s_putI 9 5 (r_loc 6) (i_const 0))
 (s_retI (i_fld 9 0 (r_loc 6)))))))))))))))
theorem O_mM_refine : OKS M_mM_refine := OK_seq (OK_sif (OK_not (OK_if (OK_cS (OK_aI (OK_iloc _) OK_anil)))) (OK_retI (OK_const _))) (OK_seq (OK_sif (OK_cor (OK_cor (OK_not (OK_if (OK_cS (OK_aI (OK_iloc _) OK_anil)))) (OK_not (OK_if (OK_cS (OK_aI (OK_iloc _) OK_anil))))) (OK_not (OK_if (OK_cS (OK_aI (OK_iloc _) OK_anil))))) (OK_retI (OK_const _))) (OK_seq (OK_ast (OK_rald (OK_rfld (OK_rloc _)) (OK_iloc _))) (OK_seq (OK_ist (OK_const _)) (OK_seq (OK_seq (OK_ist (OK_const _)) (OK_whl (OK_icmp (OK_iloc _) (OK_ifld (OK_rloc _))) (OK_seq (OK_ist (OK_add (OK_iloc _) (OK_econd (OK_icmp (OK_iald (OK_rfld (OK_rloc _)) (OK_iloc _)) (OK_iloc _)) (OK_const _) (OK_const _)))) OK_inc))) (OK_seq (OK_sif (OK_icmp (OK_add (OK_ifld (OK_rloc _)) (OK_iloc _)) (OK_const _)) (OK_retI (OK_const _))) (OK_seq (OK_ast (OK_new OK_anil)) (OK_seq (OK_scV (OK_rloc _) (OK_aR (OK_rloc _) OK_anil)) (OK_seq (OK_ast (OK_newa (OK_const _))) (OK_seq (OK_putI (OK_rloc _) (OK_const _)) (OK_seq (OK_seq (OK_ist (OK_const _)) (OK_whl (OK_icmp (OK_iloc _) (OK_ifld (OK_rloc _))) (OK_seq (OK_seq (OK_ist (OK_econd (OK_icmp (OK_iald (OK_rfld (OK_rloc _)) (OK_iloc _)) (OK_iloc _)) (OK_const _) (OK_const _))) (OK_seq (OK_siast (OK_rloc _) (OK_ifld (OK_rloc _)) (OK_iloc _)) (OK_seq (OK_scV (OK_rloc _) (OK_aI (OK_econd (OK_if (OK_iloc _)) (OK_iloc _) (OK_iald (OK_rfld (OK_rloc _)) (OK_iloc _))) (OK_aI (OK_iald (OK_rfld (OK_rloc _)) (OK_iloc _)) (OK_aI (OK_const _) OK_anil)))) (OK_sif (OK_if (OK_iloc _)) (OK_seq (OK_siast (OK_rloc _) (OK_ifld (OK_rloc _)) (OK_iloc _)) (OK_scV (OK_rloc _) (OK_aI (OK_iloc _) (OK_aI (OK_iald (OK_rfld (OK_rloc _)) (OK_iloc _)) (OK_aI (OK_const _) OK_anil))))))))) OK_inc))) (OK_seq (OK_seq (OK_ist (OK_const _)) (OK_whl (OK_icmp (OK_iloc _) (OK_ifld (OK_rloc _))) (OK_seq (OK_seq (OK_ist (OK_const _)) (OK_whl (OK_icmp (OK_iloc _) (OK_ifld (OK_rloc _))) (OK_seq (OK_seq (OK_sif (OK_cor (OK_icmp (OK_and (OK_shr (OK_iald (OK_rfld (OK_rloc _)) (OK_iald (OK_rloc _) (OK_iloc _))) (OK_iald (OK_rloc _) (OK_iloc _))) (OK_const _)) (OK_const _)) (OK_cand (OK_cand (OK_if (OK_iloc _)) (OK_icmp (OK_iald (OK_rloc _) (OK_iloc _)) (OK_iald (OK_rloc _) (OK_iloc _)))) (OK_icmp (OK_iloc _) (OK_iloc _)))) (OK_opaI (by simp) (fun K pc env st h bd x y X hd k => J_ior X hd k) (OK_rfld (OK_rloc _)) (OK_iloc _) (OK_shl (OK_const _) (OK_iloc _)))) (OK_sif (OK_icmp (OK_and (OK_shr (OK_iald (OK_rfld (OK_rloc _)) (OK_iald (OK_rloc _) (OK_iloc _))) (OK_iald (OK_rloc _) (OK_iloc _))) (OK_const _)) (OK_const _)) (OK_scV (OK_rloc _) (OK_aI (OK_iloc _) (OK_aI (OK_iloc _) OK_anil))))) OK_inc))) OK_inc))) (OK_seq (OK_putI (OK_rloc _) (OK_const _)) (OK_retI (OK_ifld (OK_rloc _)))))))))))))))
theorem K_mM_refine : M_mM_refine.1 (10, (kini 1), prog_10_method_52_code, some (.int), 12) 0 = some (385, false, []) := by decide +kernel
theorem C_mM_refine {d mc ms : Nat} {av : List Value} {h : FH} {Rr : Option Value → FH → Prop} (hl : (lg_sl av).length ≤ 12) (body : ∀ g : GE, g.1 = d → M_mM_refine.2 g (fun _ _ _ => False) Rr (eent 12 av) h (mc, ms)) : Call 214 d av h mc ms Rr := call_of2 (k := 214) (own := 10) ((mtb_5 (i := 14) (by decide)).trans rfl) (by decide +kernel) rfl O_mM_refine K_mM_refine hl body
/-- method 215: EventStructuresModel.clearNet()I -/
def M_mM_clearNet : ST := s_seq (s_ist 1 (i_fld 10 16 (r_loc 0)))
 (s_seq (s_putI 10 16 (r_loc 0) (i_const 0))
 (s_seq (s_putI 10 17 (r_loc 0) (i_const 0))
 (s_seq (s_putI 10 18 (r_loc 0) (i_const 0))
 (s_retI (i_loc 1)))))
theorem O_mM_clearNet : OKS M_mM_clearNet := OK_seq (OK_ist (OK_ifld (OK_rloc _))) (OK_seq (OK_putI (OK_rloc _) (OK_const _)) (OK_seq (OK_putI (OK_rloc _) (OK_const _)) (OK_seq (OK_putI (OK_rloc _) (OK_const _)) (OK_retI (OK_iloc _)))))
theorem K_mM_clearNet : M_mM_clearNet.1 (10, (kini 1), prog_10_method_53_code, some (.int), 2) 0 = some (22, false, []) := by decide +kernel
theorem C_mM_clearNet {d mc ms : Nat} {av : List Value} {h : FH} {Rr : Option Value → FH → Prop} (hl : (lg_sl av).length ≤ 2) (body : ∀ g : GE, g.1 = d → M_mM_clearNet.2 g (fun _ _ _ => False) Rr (eent 2 av) h (mc, ms)) : Call 215 d av h mc ms Rr := call_of2 (k := 215) (own := 10) ((mtb_5 (i := 15) (by decide)).trans rfl) (by decide +kernel) rfl O_mM_clearNet K_mM_clearNet hl body
/-- method 216: EventStructuresModel.addPlace(Z)I -/
def M_mM_addPlace : ST := s_seq (s_if (c_icmp .eq (i_fld 10 16 (r_loc 0)) (i_const 6)) (s_retI (i_const (-3))))
 (s_seq (s_opf 10 17 .ior (fun x y => x ||| y) (r_loc 0) (e_cond (c_b (i_loc 1)) (i_shl (i_const 1) (i_fld 10 16 (r_loc 0))) (i_const 0)))
 (s_seq (s_opf 10 16 .iadd (fun x y => x + y) (r_loc 0) (i_const 1))
 (s_retI (i_sub (i_fld 10 16 (r_loc 0)) (i_const 1)))))
theorem O_mM_addPlace : OKS M_mM_addPlace := OK_seq (OK_sif (OK_icmp (OK_ifld (OK_rloc _)) (OK_const _)) (OK_retI (OK_const _))) (OK_seq (OK_opf (by simp) (fun K pc env st h bd x y X hd k => J_ior X hd k) (OK_rloc _) (OK_econd (OK_if (OK_iloc _)) (OK_shl (OK_const _) (OK_ifld (OK_rloc _))) (OK_const _))) (OK_seq (OK_opf (by simp) (fun K pc env st h bd x y X hd k => J_iadd X hd k) (OK_rloc _) (OK_const _)) (OK_retI (OK_sub (OK_ifld (OK_rloc _)) (OK_const _)))))
theorem K_mM_addPlace : M_mM_addPlace.1 (10, (kini 1), prog_10_method_54_code, some (.int), 2) 0 = some (52, false, []) := by decide +kernel
theorem C_mM_addPlace {d mc ms : Nat} {av : List Value} {h : FH} {Rr : Option Value → FH → Prop} (hl : (lg_sl av).length ≤ 2) (body : ∀ g : GE, g.1 = d → M_mM_addPlace.2 g (fun _ _ _ => False) Rr (eent 2 av) h (mc, ms)) : Call 216 d av h mc ms Rr := call_of2 (k := 216) (own := 10) ((mtb_5 (i := 16) (by decide)).trans rfl) (by decide +kernel) rfl O_mM_addPlace K_mM_addPlace hl body
/-- method 217: EventStructuresModel.addTransition(III)I -/
def M_mM_addTransition : ST := s_seq (s_ist 4 (i_sub (i_shl (i_const 1) (i_fld 10 16 (r_loc 0))) (i_const 1)))
 (s_seq (s_if (c_or (c_if .ne (i_and (i_loc 1) (i_xor (i_loc 4) (i_const (-1))))) (c_if .ne (i_and (i_loc 2) (i_xor (i_loc 4) (i_const (-1)))))) (s_retI (i_const (-1))))
 (s_seq (s_if (c_or (c_if .eq (i_loc 1)) (c_not (c_b (e_cS Value.int 150 (aI1 (i_loc 3) a_nil))))) (s_retI (i_const (-2))))
 (s_seq (s_if (c_icmp .eq (i_fld 10 18 (r_loc 0)) (i_const 6)) (s_retI (i_const (-3))))
 (s_seq (s_iast (r_fld 10 19 (r_loc 0)) (i_fld 10 18 (r_loc 0)) (i_loc 1))
 (s_seq (s_iast (r_fld 10 20 (r_loc 0)) (i_fld 10 18 (r_loc 0)) (i_loc 2))
 (s_seq (s_iast (r_fld 10 21 (r_loc 0)) (i_fld 10 18 (r_loc 0)) (i_loc 3))
 (s_seq (s_opf 10 18 .iadd (fun x y => x + y) (r_loc 0) (i_const 1))
 (s_retI (i_sub (i_fld 10 18 (r_loc 0)) (i_const 1))))))))))
theorem O_mM_addTransition : OKS M_mM_addTransition := OK_seq (OK_ist (OK_sub (OK_shl (OK_const _) (OK_ifld (OK_rloc _))) (OK_const _))) (OK_seq (OK_sif (OK_cor (OK_if (OK_and (OK_iloc _) (OK_xor (OK_iloc _) (OK_const _)))) (OK_if (OK_and (OK_iloc _) (OK_xor (OK_iloc _) (OK_const _))))) (OK_retI (OK_const _))) (OK_seq (OK_sif (OK_cor (OK_if (OK_iloc _)) (OK_not (OK_if (OK_cS (OK_aI (OK_iloc _) OK_anil))))) (OK_retI (OK_const _))) (OK_seq (OK_sif (OK_icmp (OK_ifld (OK_rloc _)) (OK_const _)) (OK_retI (OK_const _))) (OK_seq (OK_siast (OK_rfld (OK_rloc _)) (OK_ifld (OK_rloc _)) (OK_iloc _)) (OK_seq (OK_siast (OK_rfld (OK_rloc _)) (OK_ifld (OK_rloc _)) (OK_iloc _)) (OK_seq (OK_siast (OK_rfld (OK_rloc _)) (OK_ifld (OK_rloc _)) (OK_iloc _)) (OK_seq (OK_opf (by simp) (fun K pc env st h bd x y X hd k => J_iadd X hd k) (OK_rloc _) (OK_const _)) (OK_retI (OK_sub (OK_ifld (OK_rloc _)) (OK_const _))))))))))
theorem K_mM_addTransition : M_mM_addTransition.1 (10, (kini 1), prog_10_method_55_code, some (.int), 5) 0 = some (103, false, []) := by decide +kernel
theorem C_mM_addTransition {d mc ms : Nat} {av : List Value} {h : FH} {Rr : Option Value → FH → Prop} (hl : (lg_sl av).length ≤ 5) (body : ∀ g : GE, g.1 = d → M_mM_addTransition.2 g (fun _ _ _ => False) Rr (eent 5 av) h (mc, ms)) : Call 217 d av h mc ms Rr := call_of2 (k := 217) (own := 10) ((mtb_5 (i := 17) (by decide)).trans rfl) (by decide +kernel) rfl O_mM_addTransition K_mM_addTransition hl body
/-- method 218: EventStructuresModel.unfold(I)I -/
def M_mM_unfold : ST := s_seq (s_if (c_not (c_b (e_cS Value.int 148 (aI1 (i_loc 1) a_nil)))) (s_retI (i_const (-1))))
 (s_seq (s_putI 9 0 (r_fld 10 34 (r_loc 0)) (i_const 0))
 (s_seq (s_putI 10 30 (r_loc 0) (i_const 0))
 (s_seq (s_cV 219 (r_loc 0) (aI1 (i_fld 10 17 (r_loc 0)) (aI1 (i_const (-1)) a_nil)))
 (s_seq (s_ist 2 (i_const 1))
 (s_seq (s_whl (c_b (i_loc 2)) (s_seq (s_ist 3 (i_const 0))
 (s_seq (s_whl (c_and (c_icmp .lt (i_loc 3) (i_fld 10 18 (r_loc 0))) (c_not (c_b (e_cV Value.int 220 (r_loc 0) (aI1 (i_loc 3) (aI1 (i_const 0) (aI1 (i_const 0) a_nil))))))) (s_inc 3 1))
 (s_seq (s_ist 2 (e_cond (c_icmp .lt (i_loc 3) (i_fld 10 18 (r_loc 0))) (i_const 1) (i_const 0)))
 (s_if (c_b (i_loc 2)) (s_seq (s_if (c_icmp .eq (i_fld 9 0 (r_fld 10 34 (r_loc 0))) (i_const 8)) (s_retI (i_const (-6))))
 (s_cV 223 (r_loc 0) (aI1 (i_loc 3) a_nil))))))))
 (s_seq (s_cV 163 (r_ald (r_fld 10 0 (r_loc 0)) (i_loc 1)) (aR1 (r_fld 10 34 (r_loc 0)) a_nil))
 (s_seq (s_putI 9 5 (r_ald (r_fld 10 0 (r_loc 0)) (i_loc 1)) (i_const 0))
 (s_seq (s_putI 10 31 (r_loc 0) (i_fld 10 30 (r_loc 0)))
 (s_retI (i_fld 9 0 (r_fld 10 34 (r_loc 0))))))))))))
theorem O_mM_unfold : OKS M_mM_unfold := OK_seq (OK_sif (OK_not (OK_if (OK_cS (OK_aI (OK_iloc _) OK_anil)))) (OK_retI (OK_const _))) (OK_seq (OK_putI (OK_rfld (OK_rloc _)) (OK_const _)) (OK_seq (OK_putI (OK_rloc _) (OK_const _)) (OK_seq (OK_scV (OK_rloc _) (OK_aI (OK_ifld (OK_rloc _)) (OK_aI (OK_const _) OK_anil))) (OK_seq (OK_ist (OK_const _)) (OK_seq (OK_whl (OK_if (OK_iloc _)) (OK_seq (OK_ist (OK_const _)) (OK_seq (OK_whl (OK_cand (OK_icmp (OK_iloc _) (OK_ifld (OK_rloc _))) (OK_not (OK_if (OK_cV (OK_rloc _) (OK_aI (OK_iloc _) (OK_aI (OK_const _) (OK_aI (OK_const _) OK_anil))))))) OK_inc) (OK_seq (OK_ist (OK_econd (OK_icmp (OK_iloc _) (OK_ifld (OK_rloc _))) (OK_const _) (OK_const _))) (OK_sif (OK_if (OK_iloc _)) (OK_seq (OK_sif (OK_icmp (OK_ifld (OK_rfld (OK_rloc _))) (OK_const _)) (OK_retI (OK_const _))) (OK_scV (OK_rloc _) (OK_aI (OK_iloc _) OK_anil)))))))) (OK_seq (OK_scV (OK_rald (OK_rfld (OK_rloc _)) (OK_iloc _)) (OK_aR (OK_rfld (OK_rloc _)) OK_anil)) (OK_seq (OK_putI (OK_rald (OK_rfld (OK_rloc _)) (OK_iloc _)) (OK_const _)) (OK_seq (OK_putI (OK_rloc _) (OK_ifld (OK_rloc _))) (OK_retI (OK_ifld (OK_rfld (OK_rloc _))))))))))))
theorem K_mM_unfold : M_mM_unfold.1 (10, (kini 1), prog_10_method_61_code, some (.int), 4) 0 = some (143, false, []) := by decide +kernel
theorem C_mM_unfold {d mc ms : Nat} {av : List Value} {h : FH} {Rr : Option Value → FH → Prop} (hl : (lg_sl av).length ≤ 4) (body : ∀ g : GE, g.1 = d → M_mM_unfold.2 g (fun _ _ _ => False) Rr (eent 4 av) h (mc, ms)) : Call 218 d av h mc ms Rr := call_of2 (k := 218) (own := 10) ((mtb_5 (i := 18) (by decide)).trans rfl) (by decide +kernel) rfl O_mM_unfold K_mM_unfold hl body
/-- method 219: EventStructuresModel.addConditions(II)V -/
def M_mM_addConditions : ST := s_seq (s_seq (s_ist 3 (i_const 0))
 (s_whl (c_icmp .lt (i_loc 3) (i_const 6)) (s_seq (s_if (c_icmp .eq (i_and (i_shr (i_loc 1) (i_loc 3)) (i_const 1)) (i_const 1)) (s_seq (s_iast (r_fld 10 28 (r_loc 0)) (i_fld 10 30 (r_loc 0)) (i_loc 3))
 (s_seq (s_iast (r_fld 10 29 (r_loc 0)) (i_fld 10 30 (r_loc 0)) (i_loc 2))
 (s_opf 10 30 .iadd (fun x y => x + y) (r_loc 0) (i_const 1)))))
 (s_inc 3 1))))
 s_ret
theorem O_mM_addConditions : OKS M_mM_addConditions := OK_seq (OK_seq (OK_ist (OK_const _)) (OK_whl (OK_icmp (OK_iloc _) (OK_const _)) (OK_seq (OK_sif (OK_icmp (OK_and (OK_shr (OK_iloc _) (OK_iloc _)) (OK_const _)) (OK_const _)) (OK_seq (OK_siast (OK_rfld (OK_rloc _)) (OK_ifld (OK_rloc _)) (OK_iloc _)) (OK_seq (OK_siast (OK_rfld (OK_rloc _)) (OK_ifld (OK_rloc _)) (OK_iloc _)) (OK_opf (by simp) (fun K pc env st h bd x y X hd k => J_iadd X hd k) (OK_rloc _) (OK_const _))))) OK_inc))) OK_ret
theorem K_mM_addConditions : M_mM_addConditions.1 (10, (kini 1), prog_10_method_56_code, none, 4) 0 = some (54, false, []) := by decide +kernel
theorem C_mM_addConditions {d mc ms : Nat} {av : List Value} {h : FH} {Rr : Option Value → FH → Prop} (hl : (lg_sl av).length ≤ 4) (body : ∀ g : GE, g.1 = d → M_mM_addConditions.2 g (fun _ _ _ => False) Rr (eent 4 av) h (mc, ms)) : Call 219 d av h mc ms Rr := call_of2 (k := 219) (own := 10) ((mtb_5 (i := 19) (by decide)).trans rfl) (by decide +kernel) rfl O_mM_addConditions K_mM_addConditions hl body
/-- method 220: EventStructuresModel.findRow(III)Z -/
def M_mM_findRow : ST := s_seq (s_if (c_icmp .eq (i_loc 2) (i_const 6)) (s_seq (s_putI 10 36 (r_loc 0) (i_loc 3))
 (s_retZ (e_cond (c_not (c_b (e_cV Value.int 221 (r_loc 0) (aI1 (i_loc 1) a_nil)))) (i_const 1) (i_const 0)))))
 (s_seq (s_if (c_if .eq (i_and (i_shr (i_ald (r_fld 10 19 (r_loc 0)) (i_loc 1)) (i_loc 2)) (i_const 1))) (s_retZ (e_cV Value.int 220 (r_loc 0) (aI1 (i_loc 1) (aI1 (i_add (i_loc 2) (i_const 1)) (aI1 (i_loc 3) a_nil))))))
 (s_seq (s_seq (s_ist 4 (i_const 0))
 (s_whl (c_icmp .lt (i_loc 4) (i_fld 10 30 (r_loc 0))) (s_seq (s_if (c_icmp .eq (i_ald (r_fld 10 28 (r_loc 0)) (i_loc 4)) (i_loc 2)) (s_seq (s_iast (r_fld 10 35 (r_loc 0)) (i_loc 3) (i_loc 4))
 (s_if (c_and (c_b (e_cV Value.int 222 (r_loc 0) (aI1 (i_add (i_loc 3) (i_const 1)) a_nil))) (c_b (e_cV Value.int 220 (r_loc 0) (aI1 (i_loc 1) (aI1 (i_add (i_loc 2) (i_const 1)) (aI1 (i_add (i_loc 3) (i_const 1)) a_nil)))))) (s_retZ (i_const 1)))))
 (s_inc 4 1))))
 (s_retZ (i_const 0))))
theorem O_mM_findRow : OKS M_mM_findRow := OK_seq (OK_sif (OK_icmp (OK_iloc _) (OK_const _)) (OK_seq (OK_putI (OK_rloc _) (OK_iloc _)) (OK_retZ (OK_econd (OK_not (OK_if (OK_cV (OK_rloc _) (OK_aI (OK_iloc _) OK_anil)))) (OK_const _) (OK_const _))))) (OK_seq (OK_sif (OK_if (OK_and (OK_shr (OK_iald (OK_rfld (OK_rloc _)) (OK_iloc _)) (OK_iloc _)) (OK_const _))) (OK_retZ (OK_cV (OK_rloc _) (OK_aI (OK_iloc _) (OK_aI (OK_add (OK_iloc _) (OK_const _)) (OK_aI (OK_iloc _) OK_anil)))))) (OK_seq (OK_seq (OK_ist (OK_const _)) (OK_whl (OK_icmp (OK_iloc _) (OK_ifld (OK_rloc _))) (OK_seq (OK_sif (OK_icmp (OK_iald (OK_rfld (OK_rloc _)) (OK_iloc _)) (OK_iloc _)) (OK_seq (OK_siast (OK_rfld (OK_rloc _)) (OK_iloc _) (OK_iloc _)) (OK_sif (OK_cand (OK_if (OK_cV (OK_rloc _) (OK_aI (OK_add (OK_iloc _) (OK_const _)) OK_anil))) (OK_if (OK_cV (OK_rloc _) (OK_aI (OK_iloc _) (OK_aI (OK_add (OK_iloc _) (OK_const _)) (OK_aI (OK_add (OK_iloc _) (OK_const _)) OK_anil)))))) (OK_retZ (OK_const _))))) OK_inc))) (OK_retZ (OK_const _))))
theorem K_mM_findRow : M_mM_findRow.1 (10, (kini 1), prog_10_method_59_code, some (.boolean), 5) 0 = some (113, false, []) := by decide +kernel
theorem C_mM_findRow {d mc ms : Nat} {av : List Value} {h : FH} {Rr : Option Value → FH → Prop} (hl : (lg_sl av).length ≤ 5) (body : ∀ g : GE, g.1 = d → M_mM_findRow.2 g (fun _ _ _ => False) Rr (eent 5 av) h (mc, ms)) : Call 220 d av h mc ms Rr := call_of2 (k := 220) (own := 10) ((mtb_5 (i := 20) (by decide)).trans rfl) (by decide +kernel) rfl O_mM_findRow K_mM_findRow hl body
/-- method 221: EventStructuresModel.isCreated(I)Z -/
def M_mM_isCreated : ST := s_seq (s_lst 2 (l_const 0))
 (s_seq (s_seq (s_ist 4 (i_const 0))
 (s_whl (c_icmp .lt (i_loc 4) (i_fld 10 36 (r_loc 0))) (s_seq (s_lst 2 (l_or (l_loc 2) (l_shl (l_const 1) (i_ald (r_fld 10 35 (r_loc 0)) (i_loc 4)))))
 (s_inc 4 1))))
 (s_seq (s_ist 4 (i_const 0))
 (s_seq (s_seq (s_ist 5 (i_const 0))
 (s_whl (c_icmp .lt (i_loc 5) (i_fld 9 0 (r_fld 10 34 (r_loc 0)))) (s_seq (s_ist 4 (e_cond (c_or (c_b (i_loc 4)) (c_and (c_icmp .eq (i_ald (r_fld 10 32 (r_loc 0)) (i_loc 5)) (i_loc 1)) (c_lcmp .eq (l_ald (r_fld 10 33 (r_loc 0)) (i_loc 5)) (l_loc 2)))) (i_const 1) (i_const 0)))
 (s_inc 5 1))))
 (s_retZ (i_loc 4)))))
theorem O_mM_isCreated : OKS M_mM_isCreated := OK_seq (OK_lst (OK_lconst _)) (OK_seq (OK_seq (OK_ist (OK_const _)) (OK_whl (OK_icmp (OK_iloc _) (OK_ifld (OK_rloc _))) (OK_seq (OK_lst (OK_lor (OK_lloc _) (OK_lshl (OK_lconst _) (OK_iald (OK_rfld (OK_rloc _)) (OK_iloc _))))) OK_inc))) (OK_seq (OK_ist (OK_const _)) (OK_seq (OK_seq (OK_ist (OK_const _)) (OK_whl (OK_icmp (OK_iloc _) (OK_ifld (OK_rfld (OK_rloc _)))) (OK_seq (OK_ist (OK_econd (OK_cor (OK_if (OK_iloc _)) (OK_cand (OK_icmp (OK_iald (OK_rfld (OK_rloc _)) (OK_iloc _)) (OK_iloc _)) (OK_lcmp (OK_lald (OK_rfld (OK_rloc _)) (OK_iloc _)) (OK_lloc _)))) (OK_const _) (OK_const _))) OK_inc))) (OK_retZ (OK_iloc _)))))
theorem K_mM_isCreated : M_mM_isCreated.1 (10, (kini 1), prog_10_method_58_code, some (.boolean), 6) 0 = some (94, false, []) := by decide +kernel
theorem C_mM_isCreated {d mc ms : Nat} {av : List Value} {h : FH} {Rr : Option Value → FH → Prop} (hl : (lg_sl av).length ≤ 6) (body : ∀ g : GE, g.1 = d → M_mM_isCreated.2 g (fun _ _ _ => False) Rr (eent 6 av) h (mc, ms)) : Call 221 d av h mc ms Rr := call_of2 (k := 221) (own := 10) ((mtb_5 (i := 21) (by decide)).trans rfl) (by decide +kernel) rfl O_mM_isCreated K_mM_isCreated hl body
/-- method 222: EventStructuresModel.canHold(I)Z -/
def M_mM_canHold : ST := s_seq (s_ist 2 (i_const 0))
 (s_seq (s_lst 3 (l_const 0))
 (s_seq (s_seq (s_ist 5 (i_const 0))
 (s_whl (c_icmp .lt (i_loc 5) (i_loc 1)) (s_seq (s_seq (s_ist 6 (i_ald (r_fld 10 29 (r_loc 0)) (i_ald (r_fld 10 35 (r_loc 0)) (i_loc 5))))
 (s_seq (s_ist 2 (i_or (i_loc 2) (e_cond (c_if .lt (i_loc 6)) (i_const 0) (e_cV Value.int 157 (r_fld 10 34 (r_loc 0)) (aI1 (i_loc 6) a_nil)))))
 (s_lst 3 (l_or (l_loc 3) (l_shl (l_const 1) (i_ald (r_fld 10 35 (r_loc 0)) (i_loc 5)))))))
 (s_inc 5 1))))
 (s_seq (s_if (c_not (c_b (e_cV Value.int 174 (r_fld 10 34 (r_loc 0)) (aI1 (i_loc 2) a_nil)))) (s_retZ (i_const 0)))
 (s_seq (s_ist 5 (i_const 1))
 (s_seq (s_seq (s_ist 6 (i_const 0))
 (s_whl (c_icmp .lt (i_loc 6) (i_fld 9 0 (r_fld 10 34 (r_loc 0)))) (s_seq (s_ist 5 (e_cond (c_and (c_b (i_loc 5)) (c_not (c_and (c_icmp .eq (i_and (i_shr (i_loc 2) (i_loc 6)) (i_const 1)) (i_const 1)) (c_lcmp .ne (l_and (l_ald (r_fld 10 33 (r_loc 0)) (i_loc 6)) (l_loc 3)) (l_const 0))))) (i_const 1) (i_const 0)))
 (s_inc 6 1))))
 (s_retZ (i_loc 5)))))))
theorem O_mM_canHold : OKS M_mM_canHold := OK_seq (OK_ist (OK_const _)) (OK_seq (OK_lst (OK_lconst _)) (OK_seq (OK_seq (OK_ist (OK_const _)) (OK_whl (OK_icmp (OK_iloc _) (OK_iloc _)) (OK_seq (OK_seq (OK_ist (OK_iald (OK_rfld (OK_rloc _)) (OK_iald (OK_rfld (OK_rloc _)) (OK_iloc _)))) (OK_seq (OK_ist (OK_or (OK_iloc _) (OK_econd (OK_if (OK_iloc _)) (OK_const _) (OK_cV (OK_rfld (OK_rloc _)) (OK_aI (OK_iloc _) OK_anil))))) (OK_lst (OK_lor (OK_lloc _) (OK_lshl (OK_lconst _) (OK_iald (OK_rfld (OK_rloc _)) (OK_iloc _))))))) OK_inc))) (OK_seq (OK_sif (OK_not (OK_if (OK_cV (OK_rfld (OK_rloc _)) (OK_aI (OK_iloc _) OK_anil)))) (OK_retZ (OK_const _))) (OK_seq (OK_ist (OK_const _)) (OK_seq (OK_seq (OK_ist (OK_const _)) (OK_whl (OK_icmp (OK_iloc _) (OK_ifld (OK_rfld (OK_rloc _)))) (OK_seq (OK_ist (OK_econd (OK_cand (OK_if (OK_iloc _)) (OK_not (OK_cand (OK_icmp (OK_and (OK_shr (OK_iloc _) (OK_iloc _)) (OK_const _)) (OK_const _)) (OK_lcmp (OK_land (OK_lald (OK_rfld (OK_rloc _)) (OK_iloc _)) (OK_lloc _)) (OK_lconst _))))) (OK_const _) (OK_const _))) OK_inc))) (OK_retZ (OK_iloc _)))))))
theorem K_mM_canHold : M_mM_canHold.1 (10, (kini 1), prog_10_method_57_code, some (.boolean), 7) 0 = some (142, false, []) := by decide +kernel
theorem C_mM_canHold {d mc ms : Nat} {av : List Value} {h : FH} {Rr : Option Value → FH → Prop} (hl : (lg_sl av).length ≤ 7) (body : ∀ g : GE, g.1 = d → M_mM_canHold.2 g (fun _ _ _ => False) Rr (eent 7 av) h (mc, ms)) : Call 222 d av h mc ms Rr := call_of2 (k := 222) (own := 10) ((mtb_5 (i := 22) (by decide)).trans rfl) (by decide +kernel) rfl O_mM_canHold K_mM_canHold hl body
/-- method 223: EventStructuresModel.create(I)V -/
def M_mM_create : ST := s_seq (s_ist 2 (i_fld 9 0 (r_fld 10 34 (r_loc 0))))
 (s_seq (s_lst 3 (l_const 0))
 (s_seq (s_ist 5 (i_const 0))
 (s_seq (s_seq (s_ist 6 (i_const 0))
 (s_whl (c_icmp .lt (i_loc 6) (i_fld 10 36 (r_loc 0))) (s_seq (s_seq (s_lst 3 (l_or (l_loc 3) (l_shl (l_const 1) (i_ald (r_fld 10 35 (r_loc 0)) (i_loc 6)))))
 (s_ist 5 (i_or (i_loc 5) (e_cond (c_if .lt (i_ald (r_fld 10 29 (r_loc 0)) (i_ald (r_fld 10 35 (r_loc 0)) (i_loc 6)))) (i_const 0) (i_shl (i_const 1) (i_ald (r_fld 10 29 (r_loc 0)) (i_ald (r_fld 10 35 (r_loc 0)) (i_loc 6))))))))
 (s_inc 6 1))))
 (s_seq (s_cV 151 (r_fld 10 34 (r_loc 0)) (aI1 (i_ald (r_fld 10 21 (r_loc 0)) (i_loc 1)) (aI1 (i_const 1) (aI1 (i_loc 5) a_nil))))
 (s_seq (s_iast (r_fld 10 32 (r_loc 0)) (i_loc 2) (i_loc 1))
 (s_seq (s_last (r_fld 10 33 (r_loc 0)) (i_loc 2) (l_loc 3))
 (s_seq (s_seq (s_ist 6 (i_const 0))
 (s_whl (c_icmp .lt (i_loc 6) (i_loc 2)) (s_seq (s_if (c_lcmp .ne (l_and (l_ald (r_fld 10 33 (r_loc 0)) (i_loc 6)) (l_loc 3)) (l_const 0)) (s_cV 159 (r_fld 10 34 (r_loc 0)) (aI1 (i_loc 2) (aI1 (i_loc 6) a_nil))))
 (s_inc 6 1))))
 (s_seq (s_cV 219 (r_loc 0) (aI1 (i_ald (r_fld 10 20 (r_loc 0)) (i_loc 1)) (aI1 (i_loc 2) a_nil)))
 s_ret))))))))
theorem O_mM_create : OKS M_mM_create := OK_seq (OK_ist (OK_ifld (OK_rfld (OK_rloc _)))) (OK_seq (OK_lst (OK_lconst _)) (OK_seq (OK_ist (OK_const _)) (OK_seq (OK_seq (OK_ist (OK_const _)) (OK_whl (OK_icmp (OK_iloc _) (OK_ifld (OK_rloc _))) (OK_seq (OK_seq (OK_lst (OK_lor (OK_lloc _) (OK_lshl (OK_lconst _) (OK_iald (OK_rfld (OK_rloc _)) (OK_iloc _))))) (OK_ist (OK_or (OK_iloc _) (OK_econd (OK_if (OK_iald (OK_rfld (OK_rloc _)) (OK_iald (OK_rfld (OK_rloc _)) (OK_iloc _)))) (OK_const _) (OK_shl (OK_const _) (OK_iald (OK_rfld (OK_rloc _)) (OK_iald (OK_rfld (OK_rloc _)) (OK_iloc _)))))))) OK_inc))) (OK_seq (OK_scV (OK_rfld (OK_rloc _)) (OK_aI (OK_iald (OK_rfld (OK_rloc _)) (OK_iloc _)) (OK_aI (OK_const _) (OK_aI (OK_iloc _) OK_anil)))) (OK_seq (OK_siast (OK_rfld (OK_rloc _)) (OK_iloc _) (OK_iloc _)) (OK_seq (OK_slast (OK_rfld (OK_rloc _)) (OK_iloc _) (OK_lloc _)) (OK_seq (OK_seq (OK_ist (OK_const _)) (OK_whl (OK_icmp (OK_iloc _) (OK_iloc _)) (OK_seq (OK_sif (OK_lcmp (OK_land (OK_lald (OK_rfld (OK_rloc _)) (OK_iloc _)) (OK_lloc _)) (OK_lconst _)) (OK_scV (OK_rfld (OK_rloc _)) (OK_aI (OK_iloc _) (OK_aI (OK_iloc _) OK_anil)))) OK_inc))) (OK_seq (OK_scV (OK_rloc _) (OK_aI (OK_iald (OK_rfld (OK_rloc _)) (OK_iloc _)) (OK_aI (OK_iloc _) OK_anil))) OK_ret))))))))
theorem K_mM_create : M_mM_create.1 (10, (kini 1), prog_10_method_60_code, none, 7) 0 = some (162, false, []) := by decide +kernel
theorem C_mM_create {d mc ms : Nat} {av : List Value} {h : FH} {Rr : Option Value → FH → Prop} (hl : (lg_sl av).length ≤ 7) (body : ∀ g : GE, g.1 = d → M_mM_create.2 g (fun _ _ _ => False) Rr (eent 7 av) h (mc, ms)) : Call 223 d av h mc ms Rr := call_of2 (k := 223) (own := 10) ((mtb_5 (i := 23) (by decide)).trans rfl) (by decide +kernel) rfl O_mM_create K_mM_create hl body
/-- method 224: EventStructuresModel.conditionCount()I -/
def M_mM_conditionCount : ST := s_retI (i_fld 10 31 (r_loc 0))
theorem O_mM_conditionCount : OKS M_mM_conditionCount := OK_retI (OK_ifld (OK_rloc _))
theorem K_mM_conditionCount : M_mM_conditionCount.1 (10, (kini 1), prog_10_method_62_code, some (.int), 1) 0 = some (5, false, []) := by decide +kernel
theorem C_mM_conditionCount {d mc ms : Nat} {av : List Value} {h : FH} {Rr : Option Value → FH → Prop} (hl : (lg_sl av).length ≤ 1) (body : ∀ g : GE, g.1 = d → M_mM_conditionCount.2 g (fun _ _ _ => False) Rr (eent 1 av) h (mc, ms)) : Call 224 d av h mc ms Rr := call_of2 (k := 224) (own := 10) ((mtb_5 (i := 24) (by decide)).trans rfl) (by decide +kernel) rfl O_mM_conditionCount K_mM_conditionCount hl body
/-- method 225: EventStructuresModel.append(I)I -/
def M_mM_append : ST := s_seq (s_if (c_not (c_b (e_cS Value.int 149 (aI1 (i_loc 1) (aI1 (i_const 32) (aI1 (i_const 126) a_nil)))))) (s_retI (i_const (-2))))
 (s_seq (s_if (c_icmp .eq (i_fld 10 38 (r_loc 0)) (i_const 40)) (s_retI (i_const (-3))))
 (s_seq (s_iast (r_fld 10 37 (r_loc 0)) (i_fld 10 38 (r_loc 0)) (i_loc 1))
 (s_seq (s_opf 10 38 .iadd (fun x y => x + y) (r_loc 0) (i_const 1))
 (s_retI (i_fld 10 38 (r_loc 0))))))
theorem O_mM_append : OKS M_mM_append := OK_seq (OK_sif (OK_not (OK_if (OK_cS (OK_aI (OK_iloc _) (OK_aI (OK_const _) (OK_aI (OK_const _) OK_anil)))))) (OK_retI (OK_const _))) (OK_seq (OK_sif (OK_icmp (OK_ifld (OK_rloc _)) (OK_const _)) (OK_retI (OK_const _))) (OK_seq (OK_siast (OK_rfld (OK_rloc _)) (OK_ifld (OK_rloc _)) (OK_iloc _)) (OK_seq (OK_opf (by simp) (fun K pc env st h bd x y X hd k => J_iadd X hd k) (OK_rloc _) (OK_const _)) (OK_retI (OK_ifld (OK_rloc _))))))
theorem K_mM_append : M_mM_append.1 (10, (kini 1), prog_10_method_63_code, some (.int), 2) 0 = some (51, false, []) := by decide +kernel
theorem C_mM_append {d mc ms : Nat} {av : List Value} {h : FH} {Rr : Option Value → FH → Prop} (hl : (lg_sl av).length ≤ 2) (body : ∀ g : GE, g.1 = d → M_mM_append.2 g (fun _ _ _ => False) Rr (eent 2 av) h (mc, ms)) : Call 225 d av h mc ms Rr := call_of2 (k := 225) (own := 10) ((mtb_5 (i := 25) (by decide)).trans rfl) (by decide +kernel) rfl O_mM_append K_mM_append hl body
/-- method 226: EventStructuresModel.parse(I)I -/
def M_mM_parse : ST := s_seq (s_putI 10 39 (r_loc 0) (i_const 0))
 (s_seq (s_putI 10 40 (r_loc 0) (i_const (-1)))
 (s_seq (s_putZ 10 41 (r_loc 0) (i_const 0))
 (s_seq (s_ast 2 (e_cond (c_b (e_cS Value.int 148 (aI1 (i_loc 1) a_nil))) (e_cV va_rf 227 (r_loc 0) a_nil) r_null))
 (s_seq (s_ist 3 (e_cond (c_icmp .lt (i_fld 10 39 (r_loc 0)) (i_fld 10 38 (r_loc 0))) (i_const 1) (i_const 0)))
 (s_seq (s_putI 10 38 (r_loc 0) (i_const 0))
 (s_seq (s_if (c_nul true (r_loc 2)) (s_retI (i_const (-1))))
 (s_seq (s_if (c_or (c_if .ge (i_fld 10 40 (r_loc 0))) (c_b (i_loc 3))) (s_retI (i_sub (i_const (-100)) (e_cond (c_if .ge (i_fld 10 40 (r_loc 0))) (i_fld 10 40 (r_loc 0)) (i_fld 10 39 (r_loc 0))))))
 (s_seq (s_if (c_b (i_fld 10 41 (r_loc 0))) (s_retI (i_const (-6))))
 (s_seq (s_cV 163 (r_ald (r_fld 10 0 (r_loc 0)) (i_loc 1)) (aR1 (r_loc 2) a_nil))
 (s_seq (s_putI 9 5 (r_ald (r_fld 10 0 (r_loc 0)) (i_loc 1)) (i_const 0))
 (s_retI (i_fld 9 0 (r_loc 2)))))))))))))
theorem O_mM_parse : OKS M_mM_parse := OK_seq (OK_putI (OK_rloc _) (OK_const _)) (OK_seq (OK_putI (OK_rloc _) (OK_const _)) (OK_seq (OK_putZ (OK_rloc _) (OK_const _)) (OK_seq (OK_ast (OK_econd (OK_if (OK_cS (OK_aI (OK_iloc _) OK_anil))) (OK_cV (OK_rloc _) OK_anil) OK_null)) (OK_seq (OK_ist (OK_econd (OK_icmp (OK_ifld (OK_rloc _)) (OK_ifld (OK_rloc _))) (OK_const _) (OK_const _))) (OK_seq (OK_putI (OK_rloc _) (OK_const _)) (OK_seq (OK_sif (OK_nul (OK_rloc _)) (OK_retI (OK_const _))) (OK_seq (OK_sif (OK_cor (OK_if (OK_ifld (OK_rloc _))) (OK_if (OK_iloc _))) (OK_retI (OK_sub (OK_const _) (OK_econd (OK_if (OK_ifld (OK_rloc _))) (OK_ifld (OK_rloc _)) (OK_ifld (OK_rloc _)))))) (OK_seq (OK_sif (OK_if (OK_ifld (OK_rloc _))) (OK_retI (OK_const _))) (OK_seq (OK_scV (OK_rald (OK_rfld (OK_rloc _)) (OK_iloc _)) (OK_aR (OK_rloc _) OK_anil)) (OK_seq (OK_putI (OK_rald (OK_rfld (OK_rloc _)) (OK_iloc _)) (OK_const _)) (OK_retI (OK_ifld (OK_rloc _)))))))))))))
theorem K_mM_parse : M_mM_parse.1 (10, (kini 1), prog_10_method_70_code, some (.int), 4) 0 = some (127, false, []) := by decide +kernel
theorem C_mM_parse {d mc ms : Nat} {av : List Value} {h : FH} {Rr : Option Value → FH → Prop} (hl : (lg_sl av).length ≤ 4) (body : ∀ g : GE, g.1 = d → M_mM_parse.2 g (fun _ _ _ => False) Rr (eent 4 av) h (mc, ms)) : Call 226 d av h mc ms Rr := call_of2 (k := 226) (own := 10) ((mtb_5 (i := 26) (by decide)).trans rfl) (by decide +kernel) rfl O_mM_parse K_mM_parse hl body
/-- method 227: EventStructuresModel.choice()LEventStructuresModel$Structure; -/
def M_mM_choice : ST := s_seq (s_ast 1 (e_cV va_rf 228 (r_loc 0) a_nil))
 (s_seq (s_whl (c_b (e_cV Value.int 231 (r_loc 0) (aI1 (i_const 43) a_nil))) (s_seq (s_ast 2 (e_cV va_rf 228 (r_loc 0) a_nil))
 (s_ast 1 (e_cV va_rf 232 (r_loc 0) (aR1 (r_loc 1) (aR1 (r_loc 2) (aI1 (i_const 43) a_nil)))))))
 (s_retR (r_loc 1)))
theorem O_mM_choice : OKS M_mM_choice := OK_seq (OK_ast (OK_cV (OK_rloc _) OK_anil)) (OK_seq (OK_whl (OK_if (OK_cV (OK_rloc _) (OK_aI (OK_const _) OK_anil))) (OK_seq (OK_ast (OK_cV (OK_rloc _) OK_anil)) (OK_ast (OK_cV (OK_rloc _) (OK_aR (OK_rloc _) (OK_aR (OK_rloc _) (OK_aI (OK_const _) OK_anil))))))) (OK_retR (OK_rloc _)))
theorem K_mM_choice : M_mM_choice.1 (10, (kini 1), prog_10_method_66_code, some (.object "EventStructuresModel$Structure"), 3) 0 = some (33, false, []) := by decide +kernel
theorem C_mM_choice {d mc ms : Nat} {av : List Value} {h : FH} {Rr : Option Value → FH → Prop} (hl : (lg_sl av).length ≤ 3) (body : ∀ g : GE, g.1 = d → M_mM_choice.2 g (fun _ _ _ => False) Rr (eent 3 av) h (mc, ms)) : Call 227 d av h mc ms Rr := call_of2 (k := 227) (own := 10) ((mtb_5 (i := 27) (by decide)).trans rfl) (by decide +kernel) rfl O_mM_choice K_mM_choice hl body
/-- method 228: EventStructuresModel.parallel()LEventStructuresModel$Structure; -/
def M_mM_parallel : ST := s_seq (s_ast 1 (e_cV va_rf 229 (r_loc 0) a_nil))
 (s_seq (s_whl (c_b (e_cV Value.int 231 (r_loc 0) (aI1 (i_const 124) a_nil))) (s_seq (s_ast 2 (e_cV va_rf 229 (r_loc 0) a_nil))
 (s_ast 1 (e_cV va_rf 232 (r_loc 0) (aR1 (r_loc 1) (aR1 (r_loc 2) (aI1 (i_const 124) a_nil)))))))
 (s_retR (r_loc 1)))
theorem O_mM_parallel : OKS M_mM_parallel := OK_seq (OK_ast (OK_cV (OK_rloc _) OK_anil)) (OK_seq (OK_whl (OK_if (OK_cV (OK_rloc _) (OK_aI (OK_const _) OK_anil))) (OK_seq (OK_ast (OK_cV (OK_rloc _) OK_anil)) (OK_ast (OK_cV (OK_rloc _) (OK_aR (OK_rloc _) (OK_aR (OK_rloc _) (OK_aI (OK_const _) OK_anil))))))) (OK_retR (OK_rloc _)))
theorem K_mM_parallel : M_mM_parallel.1 (10, (kini 1), prog_10_method_67_code, some (.object "EventStructuresModel$Structure"), 3) 0 = some (33, false, []) := by decide +kernel
theorem C_mM_parallel {d mc ms : Nat} {av : List Value} {h : FH} {Rr : Option Value → FH → Prop} (hl : (lg_sl av).length ≤ 3) (body : ∀ g : GE, g.1 = d → M_mM_parallel.2 g (fun _ _ _ => False) Rr (eent 3 av) h (mc, ms)) : Call 228 d av h mc ms Rr := call_of2 (k := 228) (own := 10) ((mtb_5 (i := 28) (by decide)).trans rfl) (by decide +kernel) rfl O_mM_parallel K_mM_parallel hl body
/-- method 229: EventStructuresModel.sequence()LEventStructuresModel$Structure; -/
def M_mM_sequence : ST := s_seq (s_ast 1 (e_cV va_rf 230 (r_loc 0) a_nil))
 (s_seq (s_whl (c_b (e_cV Value.int 231 (r_loc 0) (aI1 (i_const 59) a_nil))) (s_seq (s_ast 2 (e_cV va_rf 230 (r_loc 0) a_nil))
 (s_ast 1 (e_cV va_rf 232 (r_loc 0) (aR1 (r_loc 1) (aR1 (r_loc 2) (aI1 (i_const 59) a_nil)))))))
 (s_retR (r_loc 1)))
theorem O_mM_sequence : OKS M_mM_sequence := OK_seq (OK_ast (OK_cV (OK_rloc _) OK_anil)) (OK_seq (OK_whl (OK_if (OK_cV (OK_rloc _) (OK_aI (OK_const _) OK_anil))) (OK_seq (OK_ast (OK_cV (OK_rloc _) OK_anil)) (OK_ast (OK_cV (OK_rloc _) (OK_aR (OK_rloc _) (OK_aR (OK_rloc _) (OK_aI (OK_const _) OK_anil))))))) (OK_retR (OK_rloc _)))
theorem K_mM_sequence : M_mM_sequence.1 (10, (kini 1), prog_10_method_68_code, some (.object "EventStructuresModel$Structure"), 3) 0 = some (33, false, []) := by decide +kernel
theorem C_mM_sequence {d mc ms : Nat} {av : List Value} {h : FH} {Rr : Option Value → FH → Prop} (hl : (lg_sl av).length ≤ 3) (body : ∀ g : GE, g.1 = d → M_mM_sequence.2 g (fun _ _ _ => False) Rr (eent 3 av) h (mc, ms)) : Call 229 d av h mc ms Rr := call_of2 (k := 229) (own := 10) ((mtb_5 (i := 29) (by decide)).trans rfl) (by decide +kernel) rfl O_mM_sequence K_mM_sequence hl body
/-- method 230: EventStructuresModel.atom()LEventStructuresModel$Structure; -/
def M_mM_atom : ST := s_seq (s_if (c_b (e_cV Value.int 231 (r_loc 0) (aI1 (i_const 40) a_nil))) (s_seq (s_ast 1 (e_cV va_rf 227 (r_loc 0) a_nil))
 (s_seq (s_if (c_not (c_b (e_cV Value.int 231 (r_loc 0) (aI1 (i_const 41) a_nil)))) (s_putI 10 40 (r_loc 0) (e_cond (c_if .lt (i_fld 10 40 (r_loc 0))) (i_fld 10 39 (r_loc 0)) (i_fld 10 40 (r_loc 0)))))
 (s_retR (r_loc 1)))))
 (s_seq (s_ast 1 (r_new 9 145 a_nil))
 (s_seq (s_if (c_or (c_b (e_cV Value.int 231 (r_loc 0) (aI1 (i_const 48) a_nil))) (c_if .ge (i_fld 10 40 (r_loc 0)))) (s_retR (r_loc 1)))
 (s_seq (s_ite (c_and (c_icmp .lt (i_fld 10 39 (r_loc 0)) (i_fld 10 38 (r_loc 0))) (c_b (e_cS Value.int 149 (aI1 (i_ald (r_fld 10 37 (r_loc 0)) (i_fld 10 39 (r_loc 0))) (aI1 (i_const 97) (aI1 (i_const 102) a_nil)))))) (s_seq (s_cV 151 (r_loc 1) (aI1 (i_sub (i_ald (r_fld 10 37 (r_loc 0)) (i_fld 10 39 (r_loc 0))) (i_const 97)) (aI1 (i_const 1) (aI1 (i_const 0) a_nil))))
 (s_opf 10 39 .iadd (fun x y => x + y) (r_loc 0) (i_const 1))) (s_putI 10 40 (r_loc 0) (i_fld 10 39 (r_loc 0))))
 (s_retR (r_loc 1)))))
theorem O_mM_atom : OKS M_mM_atom := OK_seq (OK_sif (OK_if (OK_cV (OK_rloc _) (OK_aI (OK_const _) OK_anil))) (OK_seq (OK_ast (OK_cV (OK_rloc _) OK_anil)) (OK_seq (OK_sif (OK_not (OK_if (OK_cV (OK_rloc _) (OK_aI (OK_const _) OK_anil)))) (OK_putI (OK_rloc _) (OK_econd (OK_if (OK_ifld (OK_rloc _))) (OK_ifld (OK_rloc _)) (OK_ifld (OK_rloc _))))) (OK_retR (OK_rloc _))))) (OK_seq (OK_ast (OK_new OK_anil)) (OK_seq (OK_sif (OK_cor (OK_if (OK_cV (OK_rloc _) (OK_aI (OK_const _) OK_anil))) (OK_if (OK_ifld (OK_rloc _)))) (OK_retR (OK_rloc _))) (OK_seq (OK_ite (OK_cand (OK_icmp (OK_ifld (OK_rloc _)) (OK_ifld (OK_rloc _))) (OK_if (OK_cS (OK_aI (OK_iald (OK_rfld (OK_rloc _)) (OK_ifld (OK_rloc _))) (OK_aI (OK_const _) (OK_aI (OK_const _) OK_anil)))))) (OK_seq (OK_scV (OK_rloc _) (OK_aI (OK_sub (OK_iald (OK_rfld (OK_rloc _)) (OK_ifld (OK_rloc _))) (OK_const _)) (OK_aI (OK_const _) (OK_aI (OK_const _) OK_anil)))) (OK_opf (by simp) (fun K pc env st h bd x y X hd k => J_iadd X hd k) (OK_rloc _) (OK_const _))) (OK_putI (OK_rloc _) (OK_ifld (OK_rloc _)))) (OK_retR (OK_rloc _)))))
theorem K_mM_atom : M_mM_atom.1 (10, (kini 1), prog_10_method_69_code, some (.object "EventStructuresModel$Structure"), 2) 0 = some (144, false, []) := by decide +kernel
theorem C_mM_atom {d mc ms : Nat} {av : List Value} {h : FH} {Rr : Option Value → FH → Prop} (hl : (lg_sl av).length ≤ 2) (body : ∀ g : GE, g.1 = d → M_mM_atom.2 g (fun _ _ _ => False) Rr (eent 2 av) h (mc, ms)) : Call 230 d av h mc ms Rr := call_of2 (k := 230) (own := 10) ((mtb_5 (i := 30) (by decide)).trans rfl) (by decide +kernel) rfl O_mM_atom K_mM_atom hl body
/-- method 231: EventStructuresModel.takes(I)Z -/
def M_mM_takes : ST := s_seq (s_if (c_or (c_or (c_if .ge (i_fld 10 40 (r_loc 0))) (c_icmp .ge (i_fld 10 39 (r_loc 0)) (i_fld 10 38 (r_loc 0)))) (c_icmp .ne (i_ald (r_fld 10 37 (r_loc 0)) (i_fld 10 39 (r_loc 0))) (i_loc 1))) (s_retZ (i_const 0)))
 (s_seq (s_opf 10 39 .iadd (fun x y => x + y) (r_loc 0) (i_const 1))
 (s_retZ (i_const 1)))
theorem O_mM_takes : OKS M_mM_takes := OK_seq (OK_sif (OK_cor (OK_cor (OK_if (OK_ifld (OK_rloc _))) (OK_icmp (OK_ifld (OK_rloc _)) (OK_ifld (OK_rloc _)))) (OK_icmp (OK_iald (OK_rfld (OK_rloc _)) (OK_ifld (OK_rloc _))) (OK_iloc _))) (OK_retZ (OK_const _))) (OK_seq (OK_opf (by simp) (fun K pc env st h bd x y X hd k => J_iadd X hd k) (OK_rloc _) (OK_const _)) (OK_retZ (OK_const _)))
theorem K_mM_takes : M_mM_takes.1 (10, (kini 1), prog_10_method_64_code, some (.boolean), 2) 0 = some (45, false, []) := by decide +kernel
theorem C_mM_takes {d mc ms : Nat} {av : List Value} {h : FH} {Rr : Option Value → FH → Prop} (hl : (lg_sl av).length ≤ 2) (body : ∀ g : GE, g.1 = d → M_mM_takes.2 g (fun _ _ _ => False) Rr (eent 2 av) h (mc, ms)) : Call 231 d av h mc ms Rr := call_of2 (k := 231) (own := 10) ((mtb_5 (i := 31) (by decide)).trans rfl) (by decide +kernel) rfl O_mM_takes K_mM_takes hl body
/-- method 232: EventStructuresModel.together(LEventStructuresModel$Structure;LEventStructuresModel$Structure;I)LEventStructuresModel$Structure; -/
def M_mM_together : ST := s_seq (s_ist 4 (i_const 1))
 (s_seq (s_if (c_icmp .eq (i_loc 3) (i_const 59)) (s_seq (s_ist 4 (i_const 0))
 (s_seq (s_ist 5 (i_const 0))
 (s_whl (c_icmp .lt (i_loc 5) (i_const 256)) (s_seq (s_ist 4 (i_add (i_loc 4) (e_cond (c_b (e_cV Value.int 178 (r_loc 1) (aI1 (i_loc 5) a_nil))) (i_const 1) (i_const 0))))
 (s_inc 5 1))))))
 (s_seq (s_if (c_icmp .gt (i_add (i_fld 9 0 (r_loc 1)) (i_mul (i_loc 4) (i_fld 9 0 (r_loc 2)))) (i_const 8)) (s_putZ 10 41 (r_loc 0) (i_const 1)))
 (s_seq (s_if (c_or (c_b (i_fld 10 41 (r_loc 0))) (c_if .ge (i_fld 10 40 (r_loc 0)))) (s_retR (r_new 9 145 a_nil)))
 (s_seq (s_ast 5 (r_new 9 145 a_nil))
 (s_seq (s_cV 163 (r_loc 5) (aR1 (r_loc 1) a_nil))
 (s_seq (s_ist 6 (i_const (-1)))
 (s_seq (s_seq (s_ist 7 (i_const 0))
 (s_whl (c_icmp .lt (i_loc 7) (i_loc 4)) (s_seq (s_seq (s_ist 8 (i_const 0))
 (s_seq (s_if (c_icmp .eq (i_loc 3) (i_const 59)) (s_seq (s_inc 6 1)
 (s_seq (s_whl (c_not (c_b (e_cV Value.int 178 (r_loc 1) (aI1 (i_loc 6) a_nil)))) (s_inc 6 1))
 (s_ist 8 (i_loc 6)))))
 (s_seq (s_ist 9 (i_fld 9 0 (r_loc 5)))
 (s_seq (s_seq (s_ist 10 (i_const 0))
 (s_whl (c_icmp .lt (i_loc 10) (i_fld 9 0 (r_loc 2))) (s_seq (s_cV 151 (r_loc 5) (aI1 (i_ald (r_fld 9 1 (r_loc 2)) (i_loc 10)) (aI1 (i_const 1) (aI1 (i_or (i_loc 8) (i_shl (i_ald (r_fld 9 3 (r_loc 2)) (i_loc 10)) (i_loc 9))) a_nil))))
 (s_inc 10 1))))
 (s_seq (s_ist 10 (i_const 0))
 (s_whl (c_icmp .lt (i_loc 10) (i_fld 9 0 (r_loc 2))) (s_seq (s_seq (s_ist 11 (i_const 0))
 (s_whl (c_icmp .lt (i_loc 11) (i_add (i_loc 9) (i_fld 9 0 (r_loc 2)))) (s_seq (s_seq (s_ist 12 (e_cond (c_and (c_icmp .ge (i_loc 11) (i_loc 9)) (c_icmp .eq (i_and (i_shr (i_ald (r_fld 9 4 (r_loc 2)) (i_loc 10)) (i_sub (i_loc 11) (i_loc 9))) (i_const 1)) (i_const 1))) (i_const 1) (i_const 0)))
 (s_if (c_or (c_b (i_loc 12)) (c_and (c_icmp .eq (i_loc 3) (i_const 43)) (c_icmp .lt (i_loc 11) (i_fld 9 0 (r_loc 1))))) (s_cV 159 (r_loc 5) (aI1 (i_add (i_loc 9) (i_loc 10)) (aI1 (i_loc 11) a_nil)))))
 (s_inc 11 1))))
 (s_inc 10 1))))))))
 (s_inc 7 1))))
 (s_retR (r_loc 5)))))))))
theorem O_mM_together : OKS M_mM_together := OK_seq (OK_ist (OK_const _)) (OK_seq (OK_sif (OK_icmp (OK_iloc _) (OK_const _)) (OK_seq (OK_ist (OK_const _)) (OK_seq (OK_ist (OK_const _)) (OK_whl (OK_icmp (OK_iloc _) (OK_const _)) (OK_seq (OK_ist (OK_add (OK_iloc _) (OK_econd (OK_if (OK_cV (OK_rloc _) (OK_aI (OK_iloc _) OK_anil))) (OK_const _) (OK_const _)))) OK_inc))))) (OK_seq (OK_sif (OK_icmp (OK_add (OK_ifld (OK_rloc _)) (OK_mul (OK_iloc _) (OK_ifld (OK_rloc _)))) (OK_const _)) (OK_putZ (OK_rloc _) (OK_const _))) (OK_seq (OK_sif (OK_cor (OK_if (OK_ifld (OK_rloc _))) (OK_if (OK_ifld (OK_rloc _)))) (OK_retR (OK_new OK_anil))) (OK_seq (OK_ast (OK_new OK_anil)) (OK_seq (OK_scV (OK_rloc _) (OK_aR (OK_rloc _) OK_anil)) (OK_seq (OK_ist (OK_const _)) (OK_seq (OK_seq (OK_ist (OK_const _)) (OK_whl (OK_icmp (OK_iloc _) (OK_iloc _)) (OK_seq (OK_seq (OK_ist (OK_const _)) (OK_seq (OK_sif (OK_icmp (OK_iloc _) (OK_const _)) (OK_seq OK_inc (OK_seq (OK_whl (OK_not (OK_if (OK_cV (OK_rloc _) (OK_aI (OK_iloc _) OK_anil)))) OK_inc) (OK_ist (OK_iloc _))))) (OK_seq (OK_ist (OK_ifld (OK_rloc _))) (OK_seq (OK_seq (OK_ist (OK_const _)) (OK_whl (OK_icmp (OK_iloc _) (OK_ifld (OK_rloc _))) (OK_seq (OK_scV (OK_rloc _) (OK_aI (OK_iald (OK_rfld (OK_rloc _)) (OK_iloc _)) (OK_aI (OK_const _) (OK_aI (OK_or (OK_iloc _) (OK_shl (OK_iald (OK_rfld (OK_rloc _)) (OK_iloc _)) (OK_iloc _))) OK_anil)))) OK_inc))) (OK_seq (OK_ist (OK_const _)) (OK_whl (OK_icmp (OK_iloc _) (OK_ifld (OK_rloc _))) (OK_seq (OK_seq (OK_ist (OK_const _)) (OK_whl (OK_icmp (OK_iloc _) (OK_add (OK_iloc _) (OK_ifld (OK_rloc _)))) (OK_seq (OK_seq (OK_ist (OK_econd (OK_cand (OK_icmp (OK_iloc _) (OK_iloc _)) (OK_icmp (OK_and (OK_shr (OK_iald (OK_rfld (OK_rloc _)) (OK_iloc _)) (OK_sub (OK_iloc _) (OK_iloc _))) (OK_const _)) (OK_const _))) (OK_const _) (OK_const _))) (OK_sif (OK_cor (OK_if (OK_iloc _)) (OK_cand (OK_icmp (OK_iloc _) (OK_const _)) (OK_icmp (OK_iloc _) (OK_ifld (OK_rloc _))))) (OK_scV (OK_rloc _) (OK_aI (OK_add (OK_iloc _) (OK_iloc _)) (OK_aI (OK_iloc _) OK_anil))))) OK_inc))) OK_inc))))))) OK_inc))) (OK_retR (OK_rloc _)))))))))
theorem K_mM_together : M_mM_together.1 (10, (kini 1), prog_10_method_65_code, some (.object "EventStructuresModel$Structure"), 13) 0 = some (315, false, []) := by decide +kernel
theorem C_mM_together {d mc ms : Nat} {av : List Value} {h : FH} {Rr : Option Value → FH → Prop} (hl : (lg_sl av).length ≤ 13) (body : ∀ g : GE, g.1 = d → M_mM_together.2 g (fun _ _ _ => False) Rr (eent 13 av) h (mc, ms)) : Call 232 d av h mc ms Rr := call_of2 (k := 232) (own := 10) ((mtb_5 (i := 32) (by decide)).trans rfl) (by decide +kernel) rfl O_mM_together K_mM_together hl body
/-- method 233: EventStructuresModel.save()I -/
def M_mM_save : ST := s_seq (s_cS 234 (aR1 (r_fld 10 0 (r_loc 0)) (aR1 (r_fld 10 1 (r_loc 0)) a_nil)))
 (s_seq (s_putI 10 22 (r_loc 0) (i_fld 10 16 (r_loc 0)))
 (s_seq (s_putI 10 23 (r_loc 0) (i_fld 10 17 (r_loc 0)))
 (s_seq (s_putI 10 24 (r_loc 0) (i_fld 10 18 (r_loc 0)))
 (s_seq (s_copyI (r_fld 10 19 (r_loc 0)) (i_const 0) (r_fld 10 25 (r_loc 0)) (i_const 0) (i_const 6))
 (s_seq (s_copyI (r_fld 10 20 (r_loc 0)) (i_const 0) (r_fld 10 26 (r_loc 0)) (i_const 0) (i_const 6))
 (s_seq (s_copyI (r_fld 10 21 (r_loc 0)) (i_const 0) (r_fld 10 27 (r_loc 0)) (i_const 0) (i_const 6))
 (s_seq (s_putZ 10 2 (r_loc 0) (i_const 1))
 (s_retI (e_cV Value.int 235 (r_loc 0) a_nil)))))))))
theorem O_mM_save : OKS M_mM_save := OK_seq (OK_scS (OK_aR (OK_rfld (OK_rloc _)) (OK_aR (OK_rfld (OK_rloc _)) OK_anil))) (OK_seq (OK_putI (OK_rloc _) (OK_ifld (OK_rloc _))) (OK_seq (OK_putI (OK_rloc _) (OK_ifld (OK_rloc _))) (OK_seq (OK_putI (OK_rloc _) (OK_ifld (OK_rloc _))) (OK_seq (OK_copyI (OK_rfld (OK_rloc _)) (OK_const _) (OK_rfld (OK_rloc _)) (OK_const _) (OK_const _)) (OK_seq (OK_copyI (OK_rfld (OK_rloc _)) (OK_const _) (OK_rfld (OK_rloc _)) (OK_const _) (OK_const _)) (OK_seq (OK_copyI (OK_rfld (OK_rloc _)) (OK_const _) (OK_rfld (OK_rloc _)) (OK_const _) (OK_const _)) (OK_seq (OK_putZ (OK_rloc _) (OK_const _)) (OK_retI (OK_cV (OK_rloc _) OK_anil)))))))))
theorem K_mM_save : M_mM_save.1 (10, (kini 1), prog_10_method_73_code, some (.int), 1) 0 = some (90, false, []) := by decide +kernel
theorem C_mM_save {d mc ms : Nat} {av : List Value} {h : FH} {Rr : Option Value → FH → Prop} (hl : (lg_sl av).length ≤ 1) (body : ∀ g : GE, g.1 = d → M_mM_save.2 g (fun _ _ _ => False) Rr (eent 1 av) h (mc, ms)) : Call 233 d av h mc ms Rr := call_of2 (k := 233) (own := 10) ((mtb_5 (i := 33) (by decide)).trans rfl) (by decide +kernel) rfl O_mM_save K_mM_save hl body
/-- method 234: EventStructuresModel.carry([LEventStructuresModel$Structure;[LEventStructuresModel$Structure;)V -/
def M_mM_carry : ST := s_seq (s_seq (s_ist 2 (i_const 0))
 (s_whl (c_icmp .lt (i_loc 2) (i_const 2)) (s_seq (s_seq (s_cV 163 (r_ald (r_loc 1) (i_loc 2)) (aR1 (r_ald (r_loc 0) (i_loc 2)) a_nil))
 (s_putI 9 5 (r_ald (r_loc 1) (i_loc 2)) (i_fld 9 5 (r_ald (r_loc 0) (i_loc 2)))))
 (s_inc 2 1))))
 s_ret
theorem O_mM_carry : OKS M_mM_carry := OK_seq (OK_seq (OK_ist (OK_const _)) (OK_whl (OK_icmp (OK_iloc _) (OK_const _)) (OK_seq (OK_seq (OK_scV (OK_rald (OK_rloc _) (OK_iloc _)) (OK_aR (OK_rald (OK_rloc _) (OK_iloc _)) OK_anil)) (OK_putI (OK_rald (OK_rloc _) (OK_iloc _)) (OK_ifld (OK_rald (OK_rloc _) (OK_iloc _))))) OK_inc))) OK_ret
theorem K_mM_carry : M_mM_carry.1 (10, (kini 0), prog_10_method_71_code, none, 3) 0 = some (35, false, []) := by decide +kernel
theorem C_mM_carry {d mc ms : Nat} {av : List Value} {h : FH} {Rr : Option Value → FH → Prop} (hl : (lg_sl av).length ≤ 3) (body : ∀ g : GE, g.1 = d → M_mM_carry.2 g (fun _ _ _ => False) Rr (eent 3 av) h (mc, ms)) : Call 234 d av h mc ms Rr := call_of2 (k := 234) (own := 10) ((mtb_5 (i := 34) (by decide)).trans rfl) (by decide +kernel) rfl O_mM_carry K_mM_carry hl body
/-- method 235: EventStructuresModel.bothEvents()I -/
def M_mM_bothEvents : ST := s_retI (i_add (i_fld 9 0 (r_ald (r_fld 10 0 (r_loc 0)) (i_const 0))) (i_fld 9 0 (r_ald (r_fld 10 0 (r_loc 0)) (i_const 1))))
theorem O_mM_bothEvents : OKS M_mM_bothEvents := OK_retI (OK_add (OK_ifld (OK_rald (OK_rfld (OK_rloc _)) (OK_const _))) (OK_ifld (OK_rald (OK_rfld (OK_rloc _)) (OK_const _))))
theorem K_mM_bothEvents : M_mM_bothEvents.1 (10, (kini 1), prog_10_method_72_code, some (.int), 1) 0 = some (20, false, []) := by decide +kernel
theorem C_mM_bothEvents {d mc ms : Nat} {av : List Value} {h : FH} {Rr : Option Value → FH → Prop} (hl : (lg_sl av).length ≤ 1) (body : ∀ g : GE, g.1 = d → M_mM_bothEvents.2 g (fun _ _ _ => False) Rr (eent 1 av) h (mc, ms)) : Call 235 d av h mc ms Rr := call_of2 (k := 235) (own := 10) ((mtb_5 (i := 35) (by decide)).trans rfl) (by decide +kernel) rfl O_mM_bothEvents K_mM_bothEvents hl body
/-- method 236: EventStructuresModel.restore()I -/
def M_mM_restore : ST := s_seq (s_if (c_not (c_b (i_fld 10 2 (r_loc 0)))) (s_retI (i_const (-7))))
 (s_seq (s_cS 234 (aR1 (r_fld 10 1 (r_loc 0)) (aR1 (r_fld 10 0 (r_loc 0)) a_nil)))
 (s_seq (s_putI 10 16 (r_loc 0) (i_fld 10 22 (r_loc 0)))
 (s_seq (s_putI 10 17 (r_loc 0) (i_fld 10 23 (r_loc 0)))
 (s_seq (s_putI 10 18 (r_loc 0) (i_fld 10 24 (r_loc 0)))
 (s_seq (s_copyI (r_fld 10 25 (r_loc 0)) (i_const 0) (r_fld 10 19 (r_loc 0)) (i_const 0) (i_const 6))
 (s_seq (s_copyI (r_fld 10 26 (r_loc 0)) (i_const 0) (r_fld 10 20 (r_loc 0)) (i_const 0) (i_const 6))
 (s_seq (s_copyI (r_fld 10 27 (r_loc 0)) (i_const 0) (r_fld 10 21 (r_loc 0)) (i_const 0) (i_const 6))
 (s_retI (e_cV Value.int 235 (r_loc 0) a_nil)))))))))
theorem O_mM_restore : OKS M_mM_restore := OK_seq (OK_sif (OK_not (OK_if (OK_ifld (OK_rloc _)))) (OK_retI (OK_const _))) (OK_seq (OK_scS (OK_aR (OK_rfld (OK_rloc _)) (OK_aR (OK_rfld (OK_rloc _)) OK_anil))) (OK_seq (OK_putI (OK_rloc _) (OK_ifld (OK_rloc _))) (OK_seq (OK_putI (OK_rloc _) (OK_ifld (OK_rloc _))) (OK_seq (OK_putI (OK_rloc _) (OK_ifld (OK_rloc _))) (OK_seq (OK_copyI (OK_rfld (OK_rloc _)) (OK_const _) (OK_rfld (OK_rloc _)) (OK_const _) (OK_const _)) (OK_seq (OK_copyI (OK_rfld (OK_rloc _)) (OK_const _) (OK_rfld (OK_rloc _)) (OK_const _) (OK_const _)) (OK_seq (OK_copyI (OK_rfld (OK_rloc _)) (OK_const _) (OK_rfld (OK_rloc _)) (OK_const _) (OK_const _)) (OK_retI (OK_cV (OK_rloc _) OK_anil)))))))))
theorem K_mM_restore : M_mM_restore.1 (10, (kini 1), prog_10_method_74_code, some (.int), 1) 0 = some (95, false, []) := by decide +kernel
theorem C_mM_restore {d mc ms : Nat} {av : List Value} {h : FH} {Rr : Option Value → FH → Prop} (hl : (lg_sl av).length ≤ 1) (body : ∀ g : GE, g.1 = d → M_mM_restore.2 g (fun _ _ _ => False) Rr (eent 1 av) h (mc, ms)) : Call 236 d av h mc ms Rr := call_of2 (k := 236) (own := 10) ((mtb_5 (i := 36) (by decide)).trans rfl) (by decide +kernel) rfl O_mM_restore K_mM_restore hl body
