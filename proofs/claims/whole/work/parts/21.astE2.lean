/-! the methods, as statements (by j2l.py out of the sources); K_: their bytecode is that statement's; C_: their contract out of what the statement does -/
/-- method 3: EventStructures$Bisimulation.<init>(LEventStructures$Space;LEventStructures$Space;)V -/
def M_eB_init : ST := s_seq s_sup
 (s_seq (s_putR 0 0 (r_loc 0) (r_anew 3 (i_const 2)))
 (s_seq (s_putR 0 1 (r_loc 0) (r_newa .int (i_const 512)))
 (s_seq (s_putR 0 2 (r_loc 0) (r_newa .int (i_const 512)))
 (s_seq (s_putR 0 3 (r_loc 0) (r_newa .int (i_const 512)))
 (s_seq (s_putR 0 4 (r_loc 0) (r_newa .int (i_const 256)))
 (s_seq (s_putI 0 5 (r_loc 0) (i_const 0))
 (s_seq (s_putR 0 6 (r_loc 0) (r_newa .int (i_const 13122)))
 (s_seq (s_putR 0 7 (r_loc 0) (r_newa .int (i_const 513)))
 (s_seq (s_putR 0 8 (r_loc 0) (r_newa .int (i_const 512)))
 (s_seq (s_putR 0 9 (r_loc 0) (r_newa .int (i_const 2)))
 (s_seq (s_putR 0 10 (r_loc 0) (r_newa .int (i_const 2)))
 (s_seq (s_putR 0 11 (r_loc 0) (r_iniI (r_iniI (r_newa .int (i_const 2)) 0 (i_const (-1))) 1 (i_const (-1))))
 (s_seq (s_putR 0 12 (r_loc 0) (r_iniI (r_iniI (r_newa .int (i_const 2)) 0 (i_const (-1))) 1 (i_const (-1))))
 (s_seq (s_aast 3 (r_fld 0 0 (r_loc 0)) (i_const 0) (r_loc 1))
 (s_seq (s_aast 3 (r_fld 0 0 (r_loc 0)) (i_const 1) (r_loc 2))
 s_ret)))))))))))))))
theorem O_eB_init : OKS M_eB_init := OK_seq OK_sup (OK_seq (OK_putR (OK_rloc _) (OK_anew (OK_const _))) (OK_seq (OK_putR (OK_rloc _) (OK_newa (OK_const _))) (OK_seq (OK_putR (OK_rloc _) (OK_newa (OK_const _))) (OK_seq (OK_putR (OK_rloc _) (OK_newa (OK_const _))) (OK_seq (OK_putR (OK_rloc _) (OK_newa (OK_const _))) (OK_seq (OK_putI (OK_rloc _) (OK_const _)) (OK_seq (OK_putR (OK_rloc _) (OK_newa (OK_const _))) (OK_seq (OK_putR (OK_rloc _) (OK_newa (OK_const _))) (OK_seq (OK_putR (OK_rloc _) (OK_newa (OK_const _))) (OK_seq (OK_putR (OK_rloc _) (OK_newa (OK_const _))) (OK_seq (OK_putR (OK_rloc _) (OK_newa (OK_const _))) (OK_seq (OK_putR (OK_rloc _) (OK_iniI (OK_iniI (OK_newa (OK_const _)) (OK_const _)) (OK_const _))) (OK_seq (OK_putR (OK_rloc _) (OK_iniI (OK_iniI (OK_newa (OK_const _)) (OK_const _)) (OK_const _))) (OK_seq (OK_saast (OK_rfld (OK_rloc _)) (OK_const _) (OK_rloc _)) (OK_seq (OK_saast (OK_rfld (OK_rloc _)) (OK_const _) (OK_rloc _)) OK_ret)))))))))))))))
theorem K_eB_init : M_eB_init.1 (0, (kini 2), prog_2_method_1_code, none, 3) 0 = some (139, false, []) := by decide +kernel
theorem C_eB_init {d mc ms : Nat} {av : List Value} {h : FH} {Rr : Option Value → FH → Prop} (hl : (lg_sl av).length ≤ 3) (body : ∀ g : GE, g.1 = d → M_eB_init.2 g (fun _ _ _ => False) Rr (eent 3 av) h (mc, ms)) : Call 3 d av h mc ms Rr := call_of2 (k := 3) (own := 0) ((mtb_0 (i := 3) (by decide)).trans rfl) (by decide +kernel) rfl O_eB_init K_eB_init hl body
/-- method 4: EventStructures$Words.<init>(LEventStructures$Space;LEventStructures$Space;)V -/
def M_eW_init : ST := s_seq s_sup
 (s_seq (s_putR 6 0 (r_loc 0) (r_anew 3 (i_const 2)))
 (s_seq (s_putR 6 1 (r_loc 0) (r_mnew (i_const 18) (i_const 70)))
 (s_seq (s_putR 6 2 (r_loc 0) (r_newa .int (i_const 18)))
 (s_seq (s_putR 6 3 (r_loc 0) (r_newa .int (i_const 12)))
 (s_seq (s_putR 6 4 (r_loc 0) (r_newa .int (i_const 256)))
 (s_seq (s_putI 6 5 (r_loc 0) (i_const 0))
 (s_seq (s_putR 6 6 (r_loc 0) (r_newa .long (i_const 72)))
 (s_seq (s_putR 6 7 (r_loc 0) (r_newa .long (i_const 4096)))
 (s_seq (s_putR 6 8 (r_loc 0) (r_newa .int (i_const 512)))
 (s_seq (s_putR 6 9 (r_loc 0) (r_newa .int (i_const 512)))
 (s_seq (s_putI 6 10 (r_loc 0) (i_const 0))
 (s_seq (s_putR 6 11 (r_loc 0) (r_newa .int (i_const 8)))
 (s_seq (s_putR 6 12 (r_loc 0) (r_newa .int (i_const 8)))
 (s_seq (s_putI 6 13 (r_loc 0) (i_const 0))
 (s_seq (s_putR 6 14 (r_loc 0) (r_newa .int (i_const 2)))
 (s_seq (s_putR 6 15 (r_loc 0) (r_iniI (r_iniI (r_newa .int (i_const 2)) 0 (i_const (-1))) 1 (i_const (-1))))
 (s_seq (s_putR 6 16 (r_loc 0) (r_iniI (r_iniI (r_newa .int (i_const 2)) 0 (i_const (-1))) 1 (i_const (-1))))
 (s_seq (s_aast 3 (r_fld 6 0 (r_loc 0)) (i_const 0) (r_loc 1))
 (s_seq (s_aast 3 (r_fld 6 0 (r_loc 0)) (i_const 1) (r_loc 2))
 s_ret)))))))))))))))))))
theorem O_eW_init : OKS M_eW_init := OK_seq OK_sup (OK_seq (OK_putR (OK_rloc _) (OK_anew (OK_const _))) (OK_seq (OK_putR (OK_rloc _) (OK_mnew (OK_const _) (OK_const _))) (OK_seq (OK_putR (OK_rloc _) (OK_newa (OK_const _))) (OK_seq (OK_putR (OK_rloc _) (OK_newa (OK_const _))) (OK_seq (OK_putR (OK_rloc _) (OK_newa (OK_const _))) (OK_seq (OK_putI (OK_rloc _) (OK_const _)) (OK_seq (OK_putR (OK_rloc _) (OK_newa (OK_const _))) (OK_seq (OK_putR (OK_rloc _) (OK_newa (OK_const _))) (OK_seq (OK_putR (OK_rloc _) (OK_newa (OK_const _))) (OK_seq (OK_putR (OK_rloc _) (OK_newa (OK_const _))) (OK_seq (OK_putI (OK_rloc _) (OK_const _)) (OK_seq (OK_putR (OK_rloc _) (OK_newa (OK_const _))) (OK_seq (OK_putR (OK_rloc _) (OK_newa (OK_const _))) (OK_seq (OK_putI (OK_rloc _) (OK_const _)) (OK_seq (OK_putR (OK_rloc _) (OK_newa (OK_const _))) (OK_seq (OK_putR (OK_rloc _) (OK_iniI (OK_iniI (OK_newa (OK_const _)) (OK_const _)) (OK_const _))) (OK_seq (OK_putR (OK_rloc _) (OK_iniI (OK_iniI (OK_newa (OK_const _)) (OK_const _)) (OK_const _))) (OK_seq (OK_saast (OK_rfld (OK_rloc _)) (OK_const _) (OK_rloc _)) (OK_seq (OK_saast (OK_rfld (OK_rloc _)) (OK_const _) (OK_rloc _)) OK_ret)))))))))))))))))))
theorem K_eW_init : M_eW_init.1 (6, (kini 2), prog_8_method_1_code, none, 3) 0 = some (167, false, []) := by decide +kernel
theorem C_eW_init {d mc ms : Nat} {av : List Value} {h : FH} {Rr : Option Value → FH → Prop} (hl : (lg_sl av).length ≤ 3) (body : ∀ g : GE, g.1 = d → M_eW_init.2 g (fun _ _ _ => False) Rr (eent 3 av) h (mc, ms)) : Call 4 d av h mc ms Rr := call_of2 (k := 4) (own := 6) ((mtb_0 (i := 4) (by decide)).trans rfl) (by decide +kernel) rfl O_eW_init K_eW_init hl body
/-- method 5: EventStructures$Net.<init>()V -/
def M_eN_init : ST := s_seq s_sup
 (s_seq (s_putI 2 0 (r_loc 0) (i_const 0))
 (s_seq (s_putI 2 1 (r_loc 0) (i_const 0))
 (s_seq (s_putI 2 2 (r_loc 0) (i_const 0))
 (s_seq (s_putR 2 3 (r_loc 0) (r_newa .int (i_const 6)))
 (s_seq (s_putR 2 4 (r_loc 0) (r_newa .int (i_const 6)))
 (s_seq (s_putR 2 5 (r_loc 0) (r_newa .int (i_const 6)))
 s_ret))))))
theorem O_eN_init : OKS M_eN_init := OK_seq OK_sup (OK_seq (OK_putI (OK_rloc _) (OK_const _)) (OK_seq (OK_putI (OK_rloc _) (OK_const _)) (OK_seq (OK_putI (OK_rloc _) (OK_const _)) (OK_seq (OK_putR (OK_rloc _) (OK_newa (OK_const _))) (OK_seq (OK_putR (OK_rloc _) (OK_newa (OK_const _))) (OK_seq (OK_putR (OK_rloc _) (OK_newa (OK_const _))) OK_ret))))))
theorem K_eN_init : M_eN_init.1 (2, (kini 2), prog_4_method_1_code, none, 1) 0 = some (44, false, []) := by decide +kernel
theorem C_eN_init {d mc ms : Nat} {av : List Value} {h : FH} {Rr : Option Value → FH → Prop} (hl : (lg_sl av).length ≤ 1) (body : ∀ g : GE, g.1 = d → M_eN_init.2 g (fun _ _ _ => False) Rr (eent 1 av) h (mc, ms)) : Call 5 d av h mc ms Rr := call_of2 (k := 5) (own := 2) ((mtb_0 (i := 5) (by decide)).trans rfl) (by decide +kernel) rfl O_eN_init K_eN_init hl body
/-- method 6: EventStructures$Unfolding.<init>()V -/
def M_eU_init : ST := s_seq s_sup
 (s_seq (s_putR 5 0 (r_loc 0) (r_new 4 1 a_nil))
 (s_seq (s_putI 5 1 (r_loc 0) (i_const 0))
 (s_seq (s_putR 5 2 (r_loc 0) (r_newa .int (i_const 54)))
 (s_seq (s_putR 5 3 (r_loc 0) (r_newa .int (i_const 54)))
 (s_seq (s_putR 5 4 (r_loc 0) (r_newa .int (i_const 8)))
 (s_seq (s_putR 5 5 (r_loc 0) (r_newa .long (i_const 8)))
 (s_seq (s_putR 5 6 (r_loc 0) (r_newa .int (i_const 8)))
 (s_seq (s_putL 5 7 (r_loc 0) (l_const 0))
 s_ret))))))))
theorem O_eU_init : OKS M_eU_init := OK_seq OK_sup (OK_seq (OK_putR (OK_rloc _) (OK_new OK_anil)) (OK_seq (OK_putI (OK_rloc _) (OK_const _)) (OK_seq (OK_putR (OK_rloc _) (OK_newa (OK_const _))) (OK_seq (OK_putR (OK_rloc _) (OK_newa (OK_const _))) (OK_seq (OK_putR (OK_rloc _) (OK_newa (OK_const _))) (OK_seq (OK_putR (OK_rloc _) (OK_newa (OK_const _))) (OK_seq (OK_putR (OK_rloc _) (OK_newa (OK_const _))) (OK_seq (OK_putL (OK_rloc _) (OK_lconst _)) OK_ret))))))))
theorem K_eU_init : M_eU_init.1 (5, (kini 2), prog_7_method_1_code, none, 1) 0 = some (66, false, []) := by decide +kernel
theorem C_eU_init {d mc ms : Nat} {av : List Value} {h : FH} {Rr : Option Value → FH → Prop} (hl : (lg_sl av).length ≤ 1) (body : ∀ g : GE, g.1 = d → M_eU_init.2 g (fun _ _ _ => False) Rr (eent 1 av) h (mc, ms)) : Call 6 d av h mc ms Rr := call_of2 (k := 6) (own := 5) ((mtb_0 (i := 6) (by decide)).trans rfl) (by decide +kernel) rfl O_eU_init K_eU_init hl body
/-- method 7: EventStructures$Language.<init>()V -/
def M_eL_init : ST := s_seq s_sup
 (s_seq (s_putR 1 0 (r_loc 0) (r_new 4 1 a_nil))
 (s_seq (s_putR 1 1 (r_loc 0) (r_newa .int (i_const 40)))
 (s_seq (s_putI 1 2 (r_loc 0) (i_const 0))
 (s_seq (s_putR 1 3 (r_loc 0) (r_newa .int (i_const 40)))
 (s_seq (s_putI 1 4 (r_loc 0) (i_const 0))
 (s_seq (s_putR 1 5 (r_loc 0) (r_newa .int (i_const 40)))
 (s_seq (s_putI 1 6 (r_loc 0) (i_const 0))
 s_ret)))))))
theorem O_eL_init : OKS M_eL_init := OK_seq OK_sup (OK_seq (OK_putR (OK_rloc _) (OK_new OK_anil)) (OK_seq (OK_putR (OK_rloc _) (OK_newa (OK_const _))) (OK_seq (OK_putI (OK_rloc _) (OK_const _)) (OK_seq (OK_putR (OK_rloc _) (OK_newa (OK_const _))) (OK_seq (OK_putI (OK_rloc _) (OK_const _)) (OK_seq (OK_putR (OK_rloc _) (OK_newa (OK_const _))) (OK_seq (OK_putI (OK_rloc _) (OK_const _)) OK_ret)))))))
theorem K_eL_init : M_eL_init.1 (1, (kini 2), prog_3_method_1_code, none, 1) 0 = some (55, false, []) := by decide +kernel
theorem C_eL_init {d mc ms : Nat} {av : List Value} {h : FH} {Rr : Option Value → FH → Prop} (hl : (lg_sl av).length ≤ 1) (body : ∀ g : GE, g.1 = d → M_eL_init.2 g (fun _ _ _ => False) Rr (eent 1 av) h (mc, ms)) : Call 7 d av h mc ms Rr := call_of2 (k := 7) (own := 1) ((mtb_0 (i := 7) (by decide)).trans rfl) (by decide +kernel) rfl O_eL_init K_eL_init hl body
/-- method 75: EventStructures$Bisimulation.roundOfSeparation(I)I -/
def M_eB_roundOfSeparation : ST := s_seq (s_cV 76 (r_loc 0) (aI1 (i_loc 1) a_nil))
 (s_retI (i_ald (r_fld 0 9 (r_loc 0)) (i_loc 1)))
theorem O_eB_roundOfSeparation : OKS M_eB_roundOfSeparation := OK_seq (OK_scV (OK_rloc _) (OK_aI (OK_iloc _) OK_anil)) (OK_retI (OK_iald (OK_rfld (OK_rloc _)) (OK_iloc _)))
theorem K_eB_roundOfSeparation : M_eB_roundOfSeparation.1 (0, (kini 1), prog_2_method_2_code, some (.int), 2) 0 = some (12, false, []) := by decide +kernel
theorem C_eB_roundOfSeparation {d mc ms : Nat} {av : List Value} {h : FH} {Rr : Option Value → FH → Prop} (hl : (lg_sl av).length ≤ 2) (body : ∀ g : GE, g.1 = d → M_eB_roundOfSeparation.2 g (fun _ _ _ => False) Rr (eent 2 av) h (mc, ms)) : Call 75 d av h mc ms Rr := call_of2 (k := 75) (own := 0) ((mtb_1 (i := 35) (by decide)).trans rfl) (by decide +kernel) rfl O_eB_roundOfSeparation K_eB_roundOfSeparation hl body
/-- method 76: EventStructures$Bisimulation.settle(I)V -/
def M_eB_settle : ST := s_seq (s_ist 2 (i_fld 4 7 (r_fld 3 0 (r_ald (r_fld 0 0 (r_loc 0)) (i_const 0)))))
 (s_seq (s_ist 3 (i_fld 4 7 (r_fld 3 0 (r_ald (r_fld 0 0 (r_loc 0)) (i_const 1)))))
 (s_seq (s_if (c_and (c_icmp .eq (i_ald (r_fld 0 11 (r_loc 0)) (i_loc 1)) (i_loc 2)) (c_icmp .eq (i_ald (r_fld 0 12 (r_loc 0)) (i_loc 1)) (i_loc 3))) s_ret)
 (s_seq (s_iast (r_fld 0 11 (r_loc 0)) (i_loc 1) (i_loc 2))
 (s_seq (s_iast (r_fld 0 12 (r_loc 0)) (i_loc 1) (i_loc 3))
 (s_seq (s_seq (s_ist 4 (i_const 0))
 (s_whl (c_icmp .lt (i_loc 4) (i_const 2)) (s_seq (s_seq (s_cV 32 (r_ald (r_fld 0 0 (r_loc 0)) (i_loc 4)) a_nil)
 (s_cV 77 (r_loc 0) (aI1 (i_loc 4) a_nil)))
 (s_inc 4 1))))
 (s_seq (s_cV 78 (r_loc 0) (aI1 (i_loc 1) a_nil))
 s_ret))))))
theorem O_eB_settle : OKS M_eB_settle := OK_seq (OK_ist (OK_ifld (OK_rfld (OK_rald (OK_rfld (OK_rloc _)) (OK_const _))))) (OK_seq (OK_ist (OK_ifld (OK_rfld (OK_rald (OK_rfld (OK_rloc _)) (OK_const _))))) (OK_seq (OK_sif (OK_cand (OK_icmp (OK_iald (OK_rfld (OK_rloc _)) (OK_iloc _)) (OK_iloc _)) (OK_icmp (OK_iald (OK_rfld (OK_rloc _)) (OK_iloc _)) (OK_iloc _))) OK_ret) (OK_seq (OK_siast (OK_rfld (OK_rloc _)) (OK_iloc _) (OK_iloc _)) (OK_seq (OK_siast (OK_rfld (OK_rloc _)) (OK_iloc _) (OK_iloc _)) (OK_seq (OK_seq (OK_ist (OK_const _)) (OK_whl (OK_icmp (OK_iloc _) (OK_const _)) (OK_seq (OK_seq (OK_scV (OK_rald (OK_rfld (OK_rloc _)) (OK_iloc _)) OK_anil) (OK_scV (OK_rloc _) (OK_aI (OK_iloc _) OK_anil))) OK_inc))) (OK_seq (OK_scV (OK_rloc _) (OK_aI (OK_iloc _) OK_anil)) OK_ret))))))
theorem K_eB_settle : M_eB_settle.1 (0, (kini 1), prog_2_method_4_code, none, 5) 0 = some (98, false, []) := by decide +kernel
theorem C_eB_settle {d mc ms : Nat} {av : List Value} {h : FH} {Rr : Option Value → FH → Prop} (hl : (lg_sl av).length ≤ 5) (body : ∀ g : GE, g.1 = d → M_eB_settle.2 g (fun _ _ _ => False) Rr (eent 5 av) h (mc, ms)) : Call 76 d av h mc ms Rr := call_of2 (k := 76) (own := 0) ((mtb_1 (i := 36) (by decide)).trans rfl) (by decide +kernel) rfl O_eB_settle K_eB_settle hl body
/-- method 77: EventStructures$Bisimulation.nameSets(I)V -/
def M_eB_nameSets : ST := s_seq (s_ast 2 (r_fld 3 0 (r_ald (r_fld 0 0 (r_loc 0)) (i_loc 1))))
 (s_seq (s_ist 3 (i_mul (i_loc 1) (i_const 256)))
 (s_seq (s_iast (r_fld 0 1 (r_loc 0)) (i_loc 3) (i_const 0))
 (s_seq (s_seq (s_ist 4 (i_const 0))
 (s_whl (c_icmp .lt (i_loc 4) (i_fld 4 5 (r_loc 2))) (s_seq (s_seq (s_ist 5 (i_wt (i_ald (r_fld 4 0 (r_loc 2)) (i_loc 4))))
 (s_seq (s_ist 6 (i_const 0))
 (s_whl (c_icmp .lt (i_loc 6) (i_shl (i_const 1) (i_loc 4))) (s_seq (s_iast (r_fld 0 1 (r_loc 0)) (i_add (i_add (i_loc 3) (i_shl (i_const 1) (i_loc 4))) (i_loc 6)) (i_add (i_ald (r_fld 0 1 (r_loc 0)) (i_add (i_loc 3) (i_loc 6))) (i_loc 5)))
 (s_inc 6 1)))))
 (s_inc 4 1))))
 s_ret)))
theorem O_eB_nameSets : OKS M_eB_nameSets := OK_seq (OK_ast (OK_rfld (OK_rald (OK_rfld (OK_rloc _)) (OK_iloc _)))) (OK_seq (OK_ist (OK_mul (OK_iloc _) (OK_const _))) (OK_seq (OK_siast (OK_rfld (OK_rloc _)) (OK_iloc _) (OK_const _)) (OK_seq (OK_seq (OK_ist (OK_const _)) (OK_whl (OK_icmp (OK_iloc _) (OK_ifld (OK_rloc _))) (OK_seq (OK_seq (OK_ist (OK_wt (OK_iald (OK_rfld (OK_rloc _)) (OK_iloc _)))) (OK_seq (OK_ist (OK_const _)) (OK_whl (OK_icmp (OK_iloc _) (OK_shl (OK_const _) (OK_iloc _))) (OK_seq (OK_siast (OK_rfld (OK_rloc _)) (OK_add (OK_add (OK_iloc _) (OK_shl (OK_const _) (OK_iloc _))) (OK_iloc _)) (OK_add (OK_iald (OK_rfld (OK_rloc _)) (OK_add (OK_iloc _) (OK_iloc _))) (OK_iloc _))) OK_inc)))) OK_inc))) OK_ret)))
theorem K_eB_nameSets : M_eB_nameSets.1 (0, (kini 1), prog_2_method_5_code, none, 7) 0 = some (99, false, []) := by decide +kernel
theorem C_eB_nameSets {d mc ms : Nat} {av : List Value} {h : FH} {Rr : Option Value → FH → Prop} (hl : (lg_sl av).length ≤ 7) (body : ∀ g : GE, g.1 = d → M_eB_nameSets.2 g (fun _ _ _ => False) Rr (eent 7 av) h (mc, ms)) : Call 77 d av h mc ms Rr := call_of2 (k := 77) (own := 0) ((mtb_1 (i := 37) (by decide)).trans rfl) (by decide +kernel) rfl O_eB_nameSets K_eB_nameSets hl body
/-- method 78: EventStructures$Bisimulation.runRounds(I)V -/
def M_eB_runRounds : ST := s_seq (s_cS 79 (aR1 (r_fld 0 2 (r_loc 0)) (aI1 (i_const 0) a_nil)))
 (s_seq (s_iast (r_fld 0 9 (r_loc 0)) (i_loc 1) (i_const 0))
 (s_seq (s_iast (r_fld 0 10 (r_loc 0)) (i_loc 1) (i_const 1))
 (s_seq (s_seq (s_ist 2 (i_const 1))
 (s_whl (c_icmp .le (i_loc 2) (i_const 9)) (s_seq (s_seq (s_ist 3 (e_cV Value.int 80 (r_loc 0) (aI1 (e_cond (c_icmp .eq (i_loc 1) (i_const 1)) (i_const 1) (i_const 0)) a_nil)))
 (s_seq (s_if (c_and (c_if .eq (i_ald (r_fld 0 9 (r_loc 0)) (i_loc 1))) (c_icmp .ne (i_ald (r_fld 0 2 (r_loc 0)) (i_const 0)) (i_ald (r_fld 0 2 (r_loc 0)) (i_const 256)))) (s_iast (r_fld 0 9 (r_loc 0)) (i_loc 1) (i_loc 2)))
 (s_seq (s_if (c_icmp .eq (i_loc 3) (i_ald (r_fld 0 10 (r_loc 0)) (i_loc 1))) s_ret)
 (s_iast (r_fld 0 10 (r_loc 0)) (i_loc 1) (i_loc 3)))))
 (s_inc 2 1))))
 s_ret)))
theorem O_eB_runRounds : OKS M_eB_runRounds := OK_seq (OK_scS (OK_aR (OK_rfld (OK_rloc _)) (OK_aI (OK_const _) OK_anil))) (OK_seq (OK_siast (OK_rfld (OK_rloc _)) (OK_iloc _) (OK_const _)) (OK_seq (OK_siast (OK_rfld (OK_rloc _)) (OK_iloc _) (OK_const _)) (OK_seq (OK_seq (OK_ist (OK_const _)) (OK_whl (OK_icmp (OK_iloc _) (OK_const _)) (OK_seq (OK_seq (OK_ist (OK_cV (OK_rloc _) (OK_aI (OK_econd (OK_icmp (OK_iloc _) (OK_const _)) (OK_const _) (OK_const _)) OK_anil))) (OK_seq (OK_sif (OK_cand (OK_if (OK_iald (OK_rfld (OK_rloc _)) (OK_iloc _))) (OK_icmp (OK_iald (OK_rfld (OK_rloc _)) (OK_const _)) (OK_iald (OK_rfld (OK_rloc _)) (OK_const _)))) (OK_siast (OK_rfld (OK_rloc _)) (OK_iloc _) (OK_iloc _))) (OK_seq (OK_sif (OK_icmp (OK_iloc _) (OK_iald (OK_rfld (OK_rloc _)) (OK_iloc _))) OK_ret) (OK_siast (OK_rfld (OK_rloc _)) (OK_iloc _) (OK_iloc _))))) OK_inc))) OK_ret)))
theorem K_eB_runRounds : M_eB_runRounds.1 (0, (kini 1), prog_2_method_6_code, none, 4) 0 = some (103, false, []) := by decide +kernel
theorem C_eB_runRounds {d mc ms : Nat} {av : List Value} {h : FH} {Rr : Option Value → FH → Prop} (hl : (lg_sl av).length ≤ 4) (body : ∀ g : GE, g.1 = d → M_eB_runRounds.2 g (fun _ _ _ => False) Rr (eent 4 av) h (mc, ms)) : Call 78 d av h mc ms Rr := call_of2 (k := 78) (own := 0) ((mtb_1 (i := 38) (by decide)).trans rfl) (by decide +kernel) rfl O_eB_runRounds K_eB_runRounds hl body
/-- method 80: EventStructures$Bisimulation.splitClasses(Z)I -/
def M_eB_splitClasses : ST := s_seq (s_ist 2 (i_const 0))
 (s_seq (s_iast (r_fld 0 7 (r_loc 0)) (i_const 0) (i_const 0))
 (s_seq (s_seq (s_ist 3 (i_const 0))
 (s_whl (c_icmp .lt (i_loc 3) (i_const 512)) (s_seq (s_if (c_b (i_zald (r_fld 3 3 (r_ald (r_fld 0 0 (r_loc 0)) (i_div (i_loc 3) (i_const 256)))) (i_rem (i_loc 3) (i_const 256)))) (s_seq (s_cV 81 (r_loc 0) (aI1 (i_loc 3) (aI1 (i_loc 1) a_nil)))
 (s_seq (s_ist 4 (e_cV Value.int 83 (r_loc 0) (aI1 (i_ald (r_fld 0 2 (r_loc 0)) (i_loc 3)) (aI1 (i_loc 2) a_nil))))
 (s_seq (s_if (c_icmp .eq (i_loc 4) (i_loc 2)) (s_seq (s_cV 85 (r_loc 0) (aI1 (i_loc 2) (aI1 (i_ald (r_fld 0 2 (r_loc 0)) (i_loc 3)) a_nil)))
 (s_inc 2 1)))
 (s_iast (r_fld 0 3 (r_loc 0)) (i_loc 3) (i_loc 4))))))
 (s_inc 3 1))))
 (s_seq (s_ast 3 (r_fld 0 2 (r_loc 0)))
 (s_seq (s_putR 0 2 (r_loc 0) (r_fld 0 3 (r_loc 0)))
 (s_seq (s_putR 0 3 (r_loc 0) (r_loc 3))
 (s_retI (i_loc 2)))))))
theorem O_eB_splitClasses : OKS M_eB_splitClasses := OK_seq (OK_ist (OK_const _)) (OK_seq (OK_siast (OK_rfld (OK_rloc _)) (OK_const _) (OK_const _)) (OK_seq (OK_seq (OK_ist (OK_const _)) (OK_whl (OK_icmp (OK_iloc _) (OK_const _)) (OK_seq (OK_sif (OK_if (OK_zald (OK_rfld (OK_rald (OK_rfld (OK_rloc _)) (OK_idiv (OK_iloc _) (OK_const _)))) (OK_irem (OK_iloc _) (OK_const _)))) (OK_seq (OK_scV (OK_rloc _) (OK_aI (OK_iloc _) (OK_aI (OK_iloc _) OK_anil))) (OK_seq (OK_ist (OK_cV (OK_rloc _) (OK_aI (OK_iald (OK_rfld (OK_rloc _)) (OK_iloc _)) (OK_aI (OK_iloc _) OK_anil)))) (OK_seq (OK_sif (OK_icmp (OK_iloc _) (OK_iloc _)) (OK_seq (OK_scV (OK_rloc _) (OK_aI (OK_iloc _) (OK_aI (OK_iald (OK_rfld (OK_rloc _)) (OK_iloc _)) OK_anil))) OK_inc)) (OK_siast (OK_rfld (OK_rloc _)) (OK_iloc _) (OK_iloc _)))))) OK_inc))) (OK_seq (OK_ast (OK_rfld (OK_rloc _))) (OK_seq (OK_putR (OK_rloc _) (OK_rfld (OK_rloc _))) (OK_seq (OK_putR (OK_rloc _) (OK_rloc _)) (OK_retI (OK_iloc _)))))))
theorem K_eB_splitClasses : M_eB_splitClasses.1 (0, (kini 1), prog_2_method_7_code, some (.int), 5) 0 = some (113, false, []) := by decide +kernel
theorem C_eB_splitClasses {d mc ms : Nat} {av : List Value} {h : FH} {Rr : Option Value → FH → Prop} (hl : (lg_sl av).length ≤ 5) (body : ∀ g : GE, g.1 = d → M_eB_splitClasses.2 g (fun _ _ _ => False) Rr (eent 5 av) h (mc, ms)) : Call 80 d av h mc ms Rr := call_of2 (k := 80) (own := 0) ((mtb_2 (i := 0) (by decide)).trans rfl) (by decide +kernel) rfl O_eB_splitClasses K_eB_splitClasses hl body
/-- method 81: EventStructures$Bisimulation.gatherMoves(IZ)V -/
def M_eB_gatherMoves : ST := s_seq (s_ast 3 (r_ald (r_fld 0 0 (r_loc 0)) (i_div (i_loc 1) (i_const 256))))
 (s_seq (s_ist 4 (i_mul (i_div (i_loc 1) (i_const 256)) (i_const 256)))
 (s_seq (s_ist 5 (i_rem (i_loc 1) (i_const 256)))
 (s_seq (s_ist 6 (i_ald (r_fld 3 4 (r_loc 3)) (i_loc 5)))
 (s_seq (s_putI 0 5 (r_loc 0) (i_const 0))
 (s_seq (s_seq (s_ist 7 (i_loc 6))
 (s_whl (c_if .gt (i_loc 7)) (s_seq (s_if (c_and (c_or (c_b (i_loc 2)) (c_icmp .eq (e_cS Value.int 56 (aI1 (i_loc 7) a_nil)) (i_const 1))) (c_b (i_zald (r_fld 3 3 (r_loc 3)) (i_or (i_loc 5) (i_loc 7))))) (s_cV 82 (r_loc 0) (aI1 (i_add (i_mul (i_ald (r_fld 0 1 (r_loc 0)) (i_add (i_loc 4) (i_loc 7))) (i_const 512)) (i_ald (r_fld 0 2 (r_loc 0)) (i_add (i_loc 4) (i_or (i_loc 5) (i_loc 7))))) a_nil)))
 (s_ist 7 (i_and (i_sub (i_loc 7) (i_const 1)) (i_loc 6))))))
 s_ret)))))
theorem O_eB_gatherMoves : OKS M_eB_gatherMoves := OK_seq (OK_ast (OK_rald (OK_rfld (OK_rloc _)) (OK_idiv (OK_iloc _) (OK_const _)))) (OK_seq (OK_ist (OK_mul (OK_idiv (OK_iloc _) (OK_const _)) (OK_const _))) (OK_seq (OK_ist (OK_irem (OK_iloc _) (OK_const _))) (OK_seq (OK_ist (OK_iald (OK_rfld (OK_rloc _)) (OK_iloc _))) (OK_seq (OK_putI (OK_rloc _) (OK_const _)) (OK_seq (OK_seq (OK_ist (OK_iloc _)) (OK_whl (OK_if (OK_iloc _)) (OK_seq (OK_sif (OK_cand (OK_cor (OK_if (OK_iloc _)) (OK_icmp (OK_cS (OK_aI (OK_iloc _) OK_anil)) (OK_const _))) (OK_if (OK_zald (OK_rfld (OK_rloc _)) (OK_or (OK_iloc _) (OK_iloc _))))) (OK_scV (OK_rloc _) (OK_aI (OK_add (OK_mul (OK_iald (OK_rfld (OK_rloc _)) (OK_add (OK_iloc _) (OK_iloc _))) (OK_const _)) (OK_iald (OK_rfld (OK_rloc _)) (OK_add (OK_iloc _) (OK_or (OK_iloc _) (OK_iloc _))))) OK_anil))) (OK_ist (OK_and (OK_sub (OK_iloc _) (OK_const _)) (OK_iloc _)))))) OK_ret)))))
theorem K_eB_gatherMoves : M_eB_gatherMoves.1 (0, (kini 1), prog_2_method_8_code, none, 8) 0 = some (123, false, []) := by decide +kernel
theorem C_eB_gatherMoves {d mc ms : Nat} {av : List Value} {h : FH} {Rr : Option Value → FH → Prop} (hl : (lg_sl av).length ≤ 8) (body : ∀ g : GE, g.1 = d → M_eB_gatherMoves.2 g (fun _ _ _ => False) Rr (eent 8 av) h (mc, ms)) : Call 81 d av h mc ms Rr := call_of2 (k := 81) (own := 0) ((mtb_2 (i := 1) (by decide)).trans rfl) (by decide +kernel) rfl O_eB_gatherMoves K_eB_gatherMoves hl body
/-- method 82: EventStructures$Bisimulation.insertMove(I)V -/
def M_eB_insertMove : ST := s_seq (s_ist 2 (i_const 0))
 (s_seq (s_ist 3 (i_fld 0 5 (r_loc 0)))
 (s_seq (s_whl (c_icmp .lt (i_loc 2) (i_loc 3)) (s_seq (s_ist 4 (i_div (i_add (i_loc 2) (i_loc 3)) (i_const 2)))
 (s_ite (c_icmp .lt (i_ald (r_fld 0 4 (r_loc 0)) (i_loc 4)) (i_loc 1)) (s_ist 2 (i_add (i_loc 4) (i_const 1))) (s_ist 3 (i_loc 4)))))
 (s_seq (s_if (c_or (c_and (c_icmp .lt (i_loc 2) (i_fld 0 5 (r_loc 0))) (c_icmp .eq (i_ald (r_fld 0 4 (r_loc 0)) (i_loc 2)) (i_loc 1))) (c_icmp .ge (i_fld 0 5 (r_loc 0)) (i_len (r_fld 0 4 (r_loc 0))))) s_ret)
 (s_seq (s_seq (s_ist 4 (i_fld 0 5 (r_loc 0)))
 (s_whl (c_icmp .gt (i_loc 4) (i_loc 2)) (s_seq (s_iast (r_fld 0 4 (r_loc 0)) (i_loc 4) (i_ald (r_fld 0 4 (r_loc 0)) (i_sub (i_loc 4) (i_const 1))))
 (s_inc 4 (-1)))))
 (s_seq (s_iast (r_fld 0 4 (r_loc 0)) (i_loc 2) (i_loc 1))
 (s_seq (s_opf 0 5 .iadd (fun x y => x + y) (r_loc 0) (i_const 1))
 s_ret))))))
theorem O_eB_insertMove : OKS M_eB_insertMove := OK_seq (OK_ist (OK_const _)) (OK_seq (OK_ist (OK_ifld (OK_rloc _))) (OK_seq (OK_whl (OK_icmp (OK_iloc _) (OK_iloc _)) (OK_seq (OK_ist (OK_idiv (OK_add (OK_iloc _) (OK_iloc _)) (OK_const _))) (OK_ite (OK_icmp (OK_iald (OK_rfld (OK_rloc _)) (OK_iloc _)) (OK_iloc _)) (OK_ist (OK_add (OK_iloc _) (OK_const _))) (OK_ist (OK_iloc _))))) (OK_seq (OK_sif (OK_cor (OK_cand (OK_icmp (OK_iloc _) (OK_ifld (OK_rloc _))) (OK_icmp (OK_iald (OK_rfld (OK_rloc _)) (OK_iloc _)) (OK_iloc _))) (OK_icmp (OK_ifld (OK_rloc _)) (OK_len (OK_rfld (OK_rloc _))))) OK_ret) (OK_seq (OK_seq (OK_ist (OK_ifld (OK_rloc _))) (OK_whl (OK_icmp (OK_iloc _) (OK_iloc _)) (OK_seq (OK_siast (OK_rfld (OK_rloc _)) (OK_iloc _) (OK_iald (OK_rfld (OK_rloc _)) (OK_sub (OK_iloc _) (OK_const _)))) OK_inc))) (OK_seq (OK_siast (OK_rfld (OK_rloc _)) (OK_iloc _) (OK_iloc _)) (OK_seq (OK_opf (by simp) (fun K pc env st h bd x y X hd k => J_iadd X hd k) (OK_rloc _) (OK_const _)) OK_ret))))))
theorem K_eB_insertMove : M_eB_insertMove.1 (0, (kini 1), prog_2_method_9_code, none, 5) 0 = some (127, false, []) := by decide +kernel
theorem C_eB_insertMove {d mc ms : Nat} {av : List Value} {h : FH} {Rr : Option Value → FH → Prop} (hl : (lg_sl av).length ≤ 5) (body : ∀ g : GE, g.1 = d → M_eB_insertMove.2 g (fun _ _ _ => False) Rr (eent 5 av) h (mc, ms)) : Call 82 d av h mc ms Rr := call_of2 (k := 82) (own := 0) ((mtb_2 (i := 2) (by decide)).trans rfl) (by decide +kernel) rfl O_eB_insertMove K_eB_insertMove hl body
/-- method 83: EventStructures$Bisimulation.findClass(II)I -/
def M_eB_findClass : ST := s_seq (s_seq (s_ist 3 (i_const 0))
 (s_whl (c_icmp .lt (i_loc 3) (i_loc 2)) (s_seq (s_if (c_and (c_icmp .eq (i_ald (r_fld 0 8 (r_loc 0)) (i_loc 3)) (i_loc 1)) (c_b (e_cV Value.int 84 (r_loc 0) (aI1 (i_loc 3) a_nil)))) (s_retI (i_loc 3)))
 (s_inc 3 1))))
 (s_retI (i_loc 2))
theorem O_eB_findClass : OKS M_eB_findClass := OK_seq (OK_seq (OK_ist (OK_const _)) (OK_whl (OK_icmp (OK_iloc _) (OK_iloc _)) (OK_seq (OK_sif (OK_cand (OK_icmp (OK_iald (OK_rfld (OK_rloc _)) (OK_iloc _)) (OK_iloc _)) (OK_if (OK_cV (OK_rloc _) (OK_aI (OK_iloc _) OK_anil)))) (OK_retI (OK_iloc _))) OK_inc))) (OK_retI (OK_iloc _))
theorem K_eB_findClass : M_eB_findClass.1 (0, (kini 1), prog_2_method_10_code, some (.int), 4) 0 = some (35, false, []) := by decide +kernel
theorem C_eB_findClass {d mc ms : Nat} {av : List Value} {h : FH} {Rr : Option Value → FH → Prop} (hl : (lg_sl av).length ≤ 4) (body : ∀ g : GE, g.1 = d → M_eB_findClass.2 g (fun _ _ _ => False) Rr (eent 4 av) h (mc, ms)) : Call 83 d av h mc ms Rr := call_of2 (k := 83) (own := 0) ((mtb_2 (i := 3) (by decide)).trans rfl) (by decide +kernel) rfl O_eB_findClass K_eB_findClass hl body
/-- method 84: EventStructures$Bisimulation.hasMoves(I)Z -/
def M_eB_hasMoves : ST := s_seq (s_ist 2 (i_ald (r_fld 0 7 (r_loc 0)) (i_loc 1)))
 (s_seq (s_if (c_icmp .ne (i_sub (i_ald (r_fld 0 7 (r_loc 0)) (i_add (i_loc 1) (i_const 1))) (i_loc 2)) (i_fld 0 5 (r_loc 0))) (s_retZ (i_const 0)))
 (s_seq (s_seq (s_ist 3 (i_const 0))
 (s_whl (c_icmp .lt (i_loc 3) (i_fld 0 5 (r_loc 0))) (s_seq (s_if (c_icmp .ne (i_ald (r_fld 0 6 (r_loc 0)) (i_add (i_loc 2) (i_loc 3))) (i_ald (r_fld 0 4 (r_loc 0)) (i_loc 3))) (s_retZ (i_const 0)))
 (s_inc 3 1))))
 (s_retZ (i_const 1))))
theorem O_eB_hasMoves : OKS M_eB_hasMoves := OK_seq (OK_ist (OK_iald (OK_rfld (OK_rloc _)) (OK_iloc _))) (OK_seq (OK_sif (OK_icmp (OK_sub (OK_iald (OK_rfld (OK_rloc _)) (OK_add (OK_iloc _) (OK_const _))) (OK_iloc _)) (OK_ifld (OK_rloc _))) (OK_retZ (OK_const _))) (OK_seq (OK_seq (OK_ist (OK_const _)) (OK_whl (OK_icmp (OK_iloc _) (OK_ifld (OK_rloc _))) (OK_seq (OK_sif (OK_icmp (OK_iald (OK_rfld (OK_rloc _)) (OK_add (OK_iloc _) (OK_iloc _))) (OK_iald (OK_rfld (OK_rloc _)) (OK_iloc _))) (OK_retZ (OK_const _))) OK_inc))) (OK_retZ (OK_const _))))
theorem K_eB_hasMoves : M_eB_hasMoves.1 (0, (kini 1), prog_2_method_11_code, some (.boolean), 4) 0 = some (63, false, []) := by decide +kernel
theorem C_eB_hasMoves {d mc ms : Nat} {av : List Value} {h : FH} {Rr : Option Value → FH → Prop} (hl : (lg_sl av).length ≤ 4) (body : ∀ g : GE, g.1 = d → M_eB_hasMoves.2 g (fun _ _ _ => False) Rr (eent 4 av) h (mc, ms)) : Call 84 d av h mc ms Rr := call_of2 (k := 84) (own := 0) ((mtb_2 (i := 4) (by decide)).trans rfl) (by decide +kernel) rfl O_eB_hasMoves K_eB_hasMoves hl body
/-- method 85: EventStructures$Bisimulation.openClass(II)V -/
def M_eB_openClass : ST := s_seq (s_ist 3 (i_ald (r_fld 0 7 (r_loc 0)) (i_loc 1)))
 (s_seq (s_seq (s_ist 4 (i_const 0))
 (s_whl (c_and (c_icmp .lt (i_loc 4) (i_fld 0 5 (r_loc 0))) (c_icmp .lt (i_loc 3) (i_const 13122))) (s_seq (s_seq (s_iast (r_fld 0 6 (r_loc 0)) (i_loc 3) (i_ald (r_fld 0 4 (r_loc 0)) (i_loc 4)))
 (s_inc 3 1))
 (s_inc 4 1))))
 (s_seq (s_iast (r_fld 0 7 (r_loc 0)) (i_add (i_loc 1) (i_const 1)) (i_loc 3))
 (s_seq (s_iast (r_fld 0 8 (r_loc 0)) (i_loc 1) (i_loc 2))
 s_ret)))
theorem O_eB_openClass : OKS M_eB_openClass := OK_seq (OK_ist (OK_iald (OK_rfld (OK_rloc _)) (OK_iloc _))) (OK_seq (OK_seq (OK_ist (OK_const _)) (OK_whl (OK_cand (OK_icmp (OK_iloc _) (OK_ifld (OK_rloc _))) (OK_icmp (OK_iloc _) (OK_const _))) (OK_seq (OK_seq (OK_siast (OK_rfld (OK_rloc _)) (OK_iloc _) (OK_iald (OK_rfld (OK_rloc _)) (OK_iloc _))) OK_inc) OK_inc))) (OK_seq (OK_siast (OK_rfld (OK_rloc _)) (OK_add (OK_iloc _) (OK_const _)) (OK_iloc _)) (OK_seq (OK_siast (OK_rfld (OK_rloc _)) (OK_iloc _) (OK_iloc _)) OK_ret)))
theorem K_eB_openClass : M_eB_openClass.1 (0, (kini 1), prog_2_method_12_code, none, 5) 0 = some (65, false, []) := by decide +kernel
theorem C_eB_openClass {d mc ms : Nat} {av : List Value} {h : FH} {Rr : Option Value → FH → Prop} (hl : (lg_sl av).length ≤ 5) (body : ∀ g : GE, g.1 = d → M_eB_openClass.2 g (fun _ _ _ => False) Rr (eent 5 av) h (mc, ms)) : Call 85 d av h mc ms Rr := call_of2 (k := 85) (own := 0) ((mtb_2 (i := 5) (by decide)).trans rfl) (by decide +kernel) rfl O_eB_openClass K_eB_openClass hl body
/-- method 88: EventStructures$Bisimulation.countClasses(I)I -/
def M_eB_countClasses : ST := s_seq (s_cV 76 (r_loc 0) (aI1 (i_loc 1) a_nil))
 (s_retI (i_ald (r_fld 0 10 (r_loc 0)) (i_loc 1)))
theorem O_eB_countClasses : OKS M_eB_countClasses := OK_seq (OK_scV (OK_rloc _) (OK_aI (OK_iloc _) OK_anil)) (OK_retI (OK_iald (OK_rfld (OK_rloc _)) (OK_iloc _)))
theorem K_eB_countClasses : M_eB_countClasses.1 (0, (kini 1), prog_2_method_3_code, some (.int), 2) 0 = some (12, false, []) := by decide +kernel
theorem C_eB_countClasses {d mc ms : Nat} {av : List Value} {h : FH} {Rr : Option Value → FH → Prop} (hl : (lg_sl av).length ≤ 2) (body : ∀ g : GE, g.1 = d → M_eB_countClasses.2 g (fun _ _ _ => False) Rr (eent 2 av) h (mc, ms)) : Call 88 d av h mc ms Rr := call_of2 (k := 88) (own := 0) ((mtb_2 (i := 8) (by decide)).trans rfl) (by decide +kernel) rfl O_eB_countClasses K_eB_countClasses hl body
/-- method 90: EventStructures$Words.lengthOfDifference()I -/
def M_eW_lengthOfDifference : ST := s_seq (s_ist 1 (i_fld 4 7 (r_fld 3 0 (r_ald (r_fld 6 0 (r_loc 0)) (i_const 0)))))
 (s_seq (s_ist 2 (i_fld 4 7 (r_fld 3 0 (r_ald (r_fld 6 0 (r_loc 0)) (i_const 1)))))
 (s_seq (s_if (c_or (c_icmp .ne (i_ald (r_fld 6 16 (r_loc 0)) (i_const 0)) (i_loc 1)) (c_icmp .ne (i_ald (r_fld 6 16 (r_loc 0)) (i_const 1)) (i_loc 2))) (s_seq (s_iast (r_fld 6 16 (r_loc 0)) (i_const 0) (i_loc 1))
 (s_seq (s_iast (r_fld 6 16 (r_loc 0)) (i_const 1) (i_loc 2))
 (s_seq (s_cV 91 (r_loc 0) (aI1 (i_const 1) (aI1 (i_const 1) a_nil)))
 (s_seq (s_putI 6 13 (r_loc 0) (i_const 9))
 (s_cS 92 (aR1 (r_loc 0) (aI1 (i_const 0) a_nil))))))))
 (s_retI (e_cond (c_icmp .gt (i_fld 6 13 (r_loc 0)) (i_const 8)) (i_const 0) (i_fld 6 13 (r_loc 0))))))
theorem O_eW_lengthOfDifference : OKS M_eW_lengthOfDifference := OK_seq (OK_ist (OK_ifld (OK_rfld (OK_rald (OK_rfld (OK_rloc _)) (OK_const _))))) (OK_seq (OK_ist (OK_ifld (OK_rfld (OK_rald (OK_rfld (OK_rloc _)) (OK_const _))))) (OK_seq (OK_sif (OK_cor (OK_icmp (OK_iald (OK_rfld (OK_rloc _)) (OK_const _)) (OK_iloc _)) (OK_icmp (OK_iald (OK_rfld (OK_rloc _)) (OK_const _)) (OK_iloc _))) (OK_seq (OK_siast (OK_rfld (OK_rloc _)) (OK_const _) (OK_iloc _)) (OK_seq (OK_siast (OK_rfld (OK_rloc _)) (OK_const _) (OK_iloc _)) (OK_seq (OK_scV (OK_rloc _) (OK_aI (OK_const _) (OK_aI (OK_const _) OK_anil))) (OK_seq (OK_putI (OK_rloc _) (OK_const _)) (OK_scS (OK_aR (OK_rloc _) (OK_aI (OK_const _) OK_anil)))))))) (OK_retI (OK_econd (OK_icmp (OK_ifld (OK_rloc _)) (OK_const _)) (OK_const _) (OK_ifld (OK_rloc _))))))
theorem K_eW_lengthOfDifference : M_eW_lengthOfDifference.1 (6, (kini 1), prog_8_method_3_code, some (.int), 3) 0 = some (95, false, []) := by decide +kernel
theorem C_eW_lengthOfDifference {d mc ms : Nat} {av : List Value} {h : FH} {Rr : Option Value → FH → Prop} (hl : (lg_sl av).length ≤ 3) (body : ∀ g : GE, g.1 = d → M_eW_lengthOfDifference.2 g (fun _ _ _ => False) Rr (eent 3 av) h (mc, ms)) : Call 90 d av h mc ms Rr := call_of2 (k := 90) (own := 6) ((mtb_2 (i := 10) (by decide)).trans rfl) (by decide +kernel) rfl O_eW_lengthOfDifference K_eW_lengthOfDifference hl body
/-- method 91: EventStructures$Words.begin(ZZ)V -/
def M_eW_begin : ST := s_seq (s_opf 6 10 .iadd (fun x y => x + y) (r_loc 0) (i_const 1))
 (s_seq (s_cS 79 (aR1 (r_fld 6 2 (r_loc 0)) (aI1 (i_const 0) a_nil)))
 (s_seq (s_iast (r_fld 6 2 (r_loc 0)) (i_const 0) (e_cond (c_b (i_loc 1)) (i_const 1) (i_const 0)))
 (s_seq (s_iast (r_fld 6 2 (r_loc 0)) (i_const 9) (e_cond (c_b (i_loc 2)) (i_const 1) (i_const 0)))
 (s_seq (s_iast (r_ald (r_fld 6 1 (r_loc 0)) (i_const 0)) (i_const 0) (i_const 0))
 (s_seq (s_iast (r_ald (r_fld 6 1 (r_loc 0)) (i_const 9)) (i_const 0) (i_const 0))
 (s_seq (s_cS 79 (aR1 (r_fld 6 3 (r_loc 0)) (aI1 (i_const 0) a_nil)))
 (s_seq (s_seq (s_ist 3 (i_const 0))
 (s_whl (c_icmp .lt (i_loc 3) (i_const 2)) (s_seq (s_seq (s_ast 4 (r_fld 3 0 (r_ald (r_fld 6 0 (r_loc 0)) (i_loc 3))))
 (s_seq (s_cV 32 (r_ald (r_fld 6 0 (r_loc 0)) (i_loc 3)) a_nil)
 (s_seq (s_ist 5 (i_const 0))
 (s_whl (c_icmp .lt (i_loc 5) (i_fld 4 5 (r_loc 4))) (s_seq (s_opaI .ior (fun x y => x ||| y) (r_fld 6 3 (r_loc 0)) (i_add (i_mul (i_loc 3) (i_const 6)) (i_ald (r_fld 4 0 (r_loc 4)) (i_loc 5))) (i_shl (i_const 1) (i_loc 5)))
 (s_inc 5 1))))))
 (s_inc 3 1))))
 s_ret)))))))
theorem O_eW_begin : OKS M_eW_begin := OK_seq (OK_opf (by simp) (fun K pc env st h bd x y X hd k => J_iadd X hd k) (OK_rloc _) (OK_const _)) (OK_seq (OK_scS (OK_aR (OK_rfld (OK_rloc _)) (OK_aI (OK_const _) OK_anil))) (OK_seq (OK_siast (OK_rfld (OK_rloc _)) (OK_const _) (OK_econd (OK_if (OK_iloc _)) (OK_const _) (OK_const _))) (OK_seq (OK_siast (OK_rfld (OK_rloc _)) (OK_const _) (OK_econd (OK_if (OK_iloc _)) (OK_const _) (OK_const _))) (OK_seq (OK_siast (OK_rald (OK_rfld (OK_rloc _)) (OK_const _)) (OK_const _) (OK_const _)) (OK_seq (OK_siast (OK_rald (OK_rfld (OK_rloc _)) (OK_const _)) (OK_const _) (OK_const _)) (OK_seq (OK_scS (OK_aR (OK_rfld (OK_rloc _)) (OK_aI (OK_const _) OK_anil))) (OK_seq (OK_seq (OK_ist (OK_const _)) (OK_whl (OK_icmp (OK_iloc _) (OK_const _)) (OK_seq (OK_seq (OK_ast (OK_rfld (OK_rald (OK_rfld (OK_rloc _)) (OK_iloc _)))) (OK_seq (OK_scV (OK_rald (OK_rfld (OK_rloc _)) (OK_iloc _)) OK_anil) (OK_seq (OK_ist (OK_const _)) (OK_whl (OK_icmp (OK_iloc _) (OK_ifld (OK_rloc _))) (OK_seq (OK_opaI (by simp) (fun K pc env st h bd x y X hd k => J_ior X hd k) (OK_rfld (OK_rloc _)) (OK_add (OK_mul (OK_iloc _) (OK_const _)) (OK_iald (OK_rfld (OK_rloc _)) (OK_iloc _))) (OK_shl (OK_const _) (OK_iloc _))) OK_inc))))) OK_inc))) OK_ret)))))))
theorem K_eW_begin : M_eW_begin.1 (6, (kini 1), prog_8_method_5_code, none, 6) 0 = some (154, false, []) := by decide +kernel
theorem C_eW_begin {d mc ms : Nat} {av : List Value} {h : FH} {Rr : Option Value → FH → Prop} (hl : (lg_sl av).length ≤ 6) (body : ∀ g : GE, g.1 = d → M_eW_begin.2 g (fun _ _ _ => False) Rr (eent 6 av) h (mc, ms)) : Call 91 d av h mc ms Rr := call_of2 (k := 91) (own := 6) ((mtb_2 (i := 11) (by decide)).trans rfl) (by decide +kernel) rfl O_eW_begin K_eW_begin hl body
/-- method 92: EventStructures$Words.seekDifference(LEventStructures$Words;I)V -/
def M_eW_seekDifference : ST := s_seq (s_if (c_or (c_icmp .ge (i_loc 1) (i_const 8)) (c_icmp .ge (i_add (i_loc 1) (i_const 1)) (i_fld 6 13 (r_loc 0)))) s_ret)
 (s_seq (s_ist 2 (e_cV Value.int 93 (r_loc 0) (aI1 (i_loc 1) a_nil)))
 (s_seq (s_if (c_b (e_cV Value.int 94 (r_loc 0) (aI1 (i_loc 2) (aI1 (i_loc 1) a_nil)))) s_ret)
 (s_seq (s_cV 95 (r_loc 0) (aI1 (i_loc 2) (aI1 (i_loc 1) (aI1 (i_const 0) a_nil))))
 (s_seq (s_seq (s_ist 3 (i_const 0))
 (s_whl (c_and (c_icmp .lt (i_loc 3) (i_const 6)) (c_icmp .lt (i_add (i_loc 1) (i_const 1)) (i_fld 6 13 (r_loc 0)))) (s_seq (s_seq (s_ist 4 (e_cV Value.int 96 (r_loc 0) (aI1 (i_const 0) (aI1 (i_loc 1) (aI1 (i_loc 3) a_nil)))))
 (s_seq (s_ist 5 (e_cV Value.int 96 (r_loc 0) (aI1 (i_const 1) (aI1 (i_loc 1) (aI1 (i_loc 3) a_nil)))))
 (s_seq (s_iast (r_fld 6 11 (r_loc 0)) (i_loc 1) (i_loc 3))
 (s_ite (c_icmp .ne (i_loc 4) (i_loc 5)) (s_cV 97 (r_loc 0) (aI1 (i_add (i_loc 1) (i_const 1)) a_nil)) (s_if (c_b (i_loc 4)) (s_cS 92 (aR1 (r_loc 0) (aI1 (i_add (i_loc 1) (i_const 1)) a_nil))))))))
 (s_inc 3 1))))
 s_ret))))
theorem O_eW_seekDifference : OKS M_eW_seekDifference := OK_seq (OK_sif (OK_cor (OK_icmp (OK_iloc _) (OK_const _)) (OK_icmp (OK_add (OK_iloc _) (OK_const _)) (OK_ifld (OK_rloc _)))) OK_ret) (OK_seq (OK_ist (OK_cV (OK_rloc _) (OK_aI (OK_iloc _) OK_anil))) (OK_seq (OK_sif (OK_if (OK_cV (OK_rloc _) (OK_aI (OK_iloc _) (OK_aI (OK_iloc _) OK_anil)))) OK_ret) (OK_seq (OK_scV (OK_rloc _) (OK_aI (OK_iloc _) (OK_aI (OK_iloc _) (OK_aI (OK_const _) OK_anil)))) (OK_seq (OK_seq (OK_ist (OK_const _)) (OK_whl (OK_cand (OK_icmp (OK_iloc _) (OK_const _)) (OK_icmp (OK_add (OK_iloc _) (OK_const _)) (OK_ifld (OK_rloc _)))) (OK_seq (OK_seq (OK_ist (OK_cV (OK_rloc _) (OK_aI (OK_const _) (OK_aI (OK_iloc _) (OK_aI (OK_iloc _) OK_anil))))) (OK_seq (OK_ist (OK_cV (OK_rloc _) (OK_aI (OK_const _) (OK_aI (OK_iloc _) (OK_aI (OK_iloc _) OK_anil))))) (OK_seq (OK_siast (OK_rfld (OK_rloc _)) (OK_iloc _) (OK_iloc _)) (OK_ite (OK_icmp (OK_iloc _) (OK_iloc _)) (OK_scV (OK_rloc _) (OK_aI (OK_add (OK_iloc _) (OK_const _)) OK_anil)) (OK_sif (OK_if (OK_iloc _)) (OK_scS (OK_aR (OK_rloc _) (OK_aI (OK_add (OK_iloc _) (OK_const _)) OK_anil)))))))) OK_inc))) OK_ret))))
theorem K_eW_seekDifference : M_eW_seekDifference.1 (6, (kini 0), prog_8_method_8_code, none, 6) 0 = some (119, false, []) := by decide +kernel
theorem C_eW_seekDifference {d mc ms : Nat} {av : List Value} {h : FH} {Rr : Option Value → FH → Prop} (hl : (lg_sl av).length ≤ 6) (body : ∀ g : GE, g.1 = d → M_eW_seekDifference.2 g (fun _ _ _ => False) Rr (eent 6 av) h (mc, ms)) : Call 92 d av h mc ms Rr := call_of2 (k := 92) (own := 6) ((mtb_2 (i := 12) (by decide)).trans rfl) (by decide +kernel) rfl O_eW_seekDifference K_eW_seekDifference hl body
/-- method 93: EventStructures$Words.findSlot(I)I -/
def M_eW_findSlot : ST := s_seq (s_ist 2 (i_mul (i_mul (i_loc 1) (i_const 2)) (i_const 4)))
 (s_seq (s_seq (s_ist 3 (i_const 0))
 (s_whl (c_icmp .lt (i_loc 3) (i_const 8)) (s_seq (s_last (r_fld 6 6 (r_loc 0)) (i_add (i_loc 2) (i_loc 3)) (l_const 0))
 (s_inc 3 1))))
 (s_seq (s_seq (s_ist 3 (i_const 0))
 (s_whl (c_icmp .lt (i_loc 3) (i_const 2)) (s_seq (s_seq (s_ist 4 (i_add (i_mul (i_loc 3) (i_const 9)) (i_loc 1)))
 (s_seq (s_ist 5 (i_const 0))
 (s_whl (c_icmp .lt (i_loc 5) (i_ald (r_fld 6 2 (r_loc 0)) (i_loc 4))) (s_seq (s_seq (s_ist 6 (i_ald (r_ald (r_fld 6 1 (r_loc 0)) (i_loc 4)) (i_loc 5)))
 (s_opaL .lor (fun x y => x ||| y) (r_fld 6 6 (r_loc 0)) (i_add (i_add (i_loc 2) (i_mul (i_loc 3) (i_const 4))) (i_div (i_loc 6) (i_const 64))) (l_shl (l_const 1) (i_rem (i_loc 6) (i_const 64)))))
 (s_inc 5 1)))))
 (s_inc 3 1))))
 (s_seq (s_lst 3 (l_const 0))
 (s_seq (s_seq (s_ist 5 (i_const 0))
 (s_whl (c_icmp .lt (i_loc 5) (i_const 8)) (s_seq (s_seq (s_lst 3 (l_mul (l_xor (l_loc 3) (l_ald (r_fld 6 6 (r_loc 0)) (i_add (i_loc 2) (i_loc 5)))) (l_const (-7046029254386353131))))
 (s_lst 3 (l_xor (l_loc 3) (l_ushr (l_loc 3) (i_const 32)))))
 (s_inc 5 1))))
 (s_retI (i_l2i (l_ushr (l_mul (l_loc 3) (l_const (-7046029254386353131))) (i_const 55))))))))
theorem O_eW_findSlot : OKS M_eW_findSlot := OK_seq (OK_ist (OK_mul (OK_mul (OK_iloc _) (OK_const _)) (OK_const _))) (OK_seq (OK_seq (OK_ist (OK_const _)) (OK_whl (OK_icmp (OK_iloc _) (OK_const _)) (OK_seq (OK_slast (OK_rfld (OK_rloc _)) (OK_add (OK_iloc _) (OK_iloc _)) (OK_lconst _)) OK_inc))) (OK_seq (OK_seq (OK_ist (OK_const _)) (OK_whl (OK_icmp (OK_iloc _) (OK_const _)) (OK_seq (OK_seq (OK_ist (OK_add (OK_mul (OK_iloc _) (OK_const _)) (OK_iloc _))) (OK_seq (OK_ist (OK_const _)) (OK_whl (OK_icmp (OK_iloc _) (OK_iald (OK_rfld (OK_rloc _)) (OK_iloc _))) (OK_seq (OK_seq (OK_ist (OK_iald (OK_rald (OK_rfld (OK_rloc _)) (OK_iloc _)) (OK_iloc _))) (OK_opaL (by simp) (fun K pc env st h bd x y X hd k => J_lor X hd k) (OK_rfld (OK_rloc _)) (OK_add (OK_add (OK_iloc _) (OK_mul (OK_iloc _) (OK_const _))) (OK_idiv (OK_iloc _) (OK_const _))) (OK_lshl (OK_lconst _) (OK_irem (OK_iloc _) (OK_const _))))) OK_inc)))) OK_inc))) (OK_seq (OK_lst (OK_lconst _)) (OK_seq (OK_seq (OK_ist (OK_const _)) (OK_whl (OK_icmp (OK_iloc _) (OK_const _)) (OK_seq (OK_seq (OK_lst (OK_lmul (OK_lxor (OK_lloc _) (OK_lald (OK_rfld (OK_rloc _)) (OK_add (OK_iloc _) (OK_iloc _)))) (OK_lconst _))) (OK_lst (OK_lxor (OK_lloc _) (OK_lushr (OK_lloc _) (OK_const _))))) OK_inc))) (OK_retI (OK_l2i (OK_lushr (OK_lmul (OK_lloc _) (OK_lconst _)) (OK_const _))))))))
theorem K_eW_findSlot : M_eW_findSlot.1 (6, (kini 1), prog_8_method_10_code, some (.int), 7) 0 = some (160, false, []) := by decide +kernel
theorem C_eW_findSlot {d mc ms : Nat} {av : List Value} {h : FH} {Rr : Option Value → FH → Prop} (hl : (lg_sl av).length ≤ 7) (body : ∀ g : GE, g.1 = d → M_eW_findSlot.2 g (fun _ _ _ => False) Rr (eent 7 av) h (mc, ms)) : Call 93 d av h mc ms Rr := call_of2 (k := 93) (own := 6) ((mtb_2 (i := 13) (by decide)).trans rfl) (by decide +kernel) rfl O_eW_findSlot K_eW_findSlot hl body
/-- method 94: EventStructures$Words.isKept(II)Z -/
def M_eW_isKept : ST := s_seq (s_if (c_icmp .ne (i_ald (r_fld 6 8 (r_loc 0)) (i_loc 1)) (i_fld 6 10 (r_loc 0))) (s_retZ (i_const 0)))
 (s_seq (s_seq (s_ist 3 (i_const 0))
 (s_whl (c_icmp .lt (i_loc 3) (i_const 8)) (s_seq (s_if (c_lcmp .ne (l_ald (r_fld 6 7 (r_loc 0)) (i_add (i_mul (i_mul (i_loc 1) (i_const 2)) (i_const 4)) (i_loc 3))) (l_ald (r_fld 6 6 (r_loc 0)) (i_add (i_mul (i_mul (i_loc 2) (i_const 2)) (i_const 4)) (i_loc 3)))) (s_retZ (i_const 0)))
 (s_inc 3 1))))
 (s_retZ (i_const 1)))
theorem O_eW_isKept : OKS M_eW_isKept := OK_seq (OK_sif (OK_icmp (OK_iald (OK_rfld (OK_rloc _)) (OK_iloc _)) (OK_ifld (OK_rloc _))) (OK_retZ (OK_const _))) (OK_seq (OK_seq (OK_ist (OK_const _)) (OK_whl (OK_icmp (OK_iloc _) (OK_const _)) (OK_seq (OK_sif (OK_lcmp (OK_lald (OK_rfld (OK_rloc _)) (OK_add (OK_mul (OK_mul (OK_iloc _) (OK_const _)) (OK_const _)) (OK_iloc _))) (OK_lald (OK_rfld (OK_rloc _)) (OK_add (OK_mul (OK_mul (OK_iloc _) (OK_const _)) (OK_const _)) (OK_iloc _)))) (OK_retZ (OK_const _))) OK_inc))) (OK_retZ (OK_const _)))
theorem K_eW_isKept : M_eW_isKept.1 (6, (kini 1), prog_8_method_11_code, some (.boolean), 4) 0 = some (61, false, []) := by decide +kernel
theorem C_eW_isKept {d mc ms : Nat} {av : List Value} {h : FH} {Rr : Option Value → FH → Prop} (hl : (lg_sl av).length ≤ 4) (body : ∀ g : GE, g.1 = d → M_eW_isKept.2 g (fun _ _ _ => False) Rr (eent 4 av) h (mc, ms)) : Call 94 d av h mc ms Rr := call_of2 (k := 94) (own := 6) ((mtb_2 (i := 14) (by decide)).trans rfl) (by decide +kernel) rfl O_eW_isKept K_eW_isKept hl body
/-- method 95: EventStructures$Words.keep(III)V -/
def M_eW_keep : ST := s_seq (s_iast (r_fld 6 8 (r_loc 0)) (i_loc 1) (i_fld 6 10 (r_loc 0)))
 (s_seq (s_iast (r_fld 6 9 (r_loc 0)) (i_loc 1) (i_loc 3))
 (s_seq (s_seq (s_ist 4 (i_const 0))
 (s_whl (c_icmp .lt (i_loc 4) (i_const 8)) (s_seq (s_last (r_fld 6 7 (r_loc 0)) (i_add (i_mul (i_mul (i_loc 1) (i_const 2)) (i_const 4)) (i_loc 4)) (l_ald (r_fld 6 6 (r_loc 0)) (i_add (i_mul (i_mul (i_loc 2) (i_const 2)) (i_const 4)) (i_loc 4))))
 (s_inc 4 1))))
 s_ret))
theorem O_eW_keep : OKS M_eW_keep := OK_seq (OK_siast (OK_rfld (OK_rloc _)) (OK_iloc _) (OK_ifld (OK_rloc _))) (OK_seq (OK_siast (OK_rfld (OK_rloc _)) (OK_iloc _) (OK_iloc _)) (OK_seq (OK_seq (OK_ist (OK_const _)) (OK_whl (OK_icmp (OK_iloc _) (OK_const _)) (OK_seq (OK_slast (OK_rfld (OK_rloc _)) (OK_add (OK_mul (OK_mul (OK_iloc _) (OK_const _)) (OK_const _)) (OK_iloc _)) (OK_lald (OK_rfld (OK_rloc _)) (OK_add (OK_mul (OK_mul (OK_iloc _) (OK_const _)) (OK_const _)) (OK_iloc _)))) OK_inc))) OK_ret))
theorem K_eW_keep : M_eW_keep.1 (6, (kini 1), prog_8_method_12_code, none, 5) 0 = some (60, false, []) := by decide +kernel
theorem C_eW_keep {d mc ms : Nat} {av : List Value} {h : FH} {Rr : Option Value → FH → Prop} (hl : (lg_sl av).length ≤ 5) (body : ∀ g : GE, g.1 = d → M_eW_keep.2 g (fun _ _ _ => False) Rr (eent 5 av) h (mc, ms)) : Call 95 d av h mc ms Rr := call_of2 (k := 95) (own := 6) ((mtb_2 (i := 15) (by decide)).trans rfl) (by decide +kernel) rfl O_eW_keep K_eW_keep hl body
/-- method 96: EventStructures$Words.advance(III)Z -/
def M_eW_advance : ST := s_seq (s_ist 4 (i_add (i_mul (i_loc 1) (i_const 9)) (i_loc 2)))
 (s_seq (s_ist 5 (i_ald (r_fld 6 3 (r_loc 0)) (i_add (i_mul (i_loc 1) (i_const 6)) (i_loc 3))))
 (s_seq (s_ast 6 (r_ald (r_fld 6 1 (r_loc 0)) (i_add (i_loc 4) (i_const 1))))
 (s_seq (s_ist 7 (i_const 0))
 (s_seq (s_opf 6 5 .iadd (fun x y => x + y) (r_loc 0) (i_const 1))
 (s_seq (s_seq (s_ist 8 (i_const 0))
 (s_whl (c_icmp .lt (i_loc 8) (i_ald (r_fld 6 2 (r_loc 0)) (i_loc 4))) (s_seq (s_seq (s_ist 9 (i_ald (r_ald (r_fld 6 1 (r_loc 0)) (i_loc 4)) (i_loc 8)))
 (s_seq (s_ist 10 (i_and (i_ald (r_fld 3 4 (r_ald (r_fld 6 0 (r_loc 0)) (i_loc 1))) (i_loc 9)) (i_loc 5)))
 (s_seq (s_ist 11 (i_const 0))
 (s_whl (c_and (c_icmp .lt (i_loc 11) (i_const 8)) (c_if .ne (i_shr (i_loc 10) (i_loc 11)))) (s_seq (s_seq (s_ist 12 (i_or (i_loc 9) (i_shl (i_const 1) (i_loc 11))))
 (s_if (c_and (c_and (c_b (e_cS Value.int 19 (aI1 (i_loc 10) (aI1 (i_loc 11) a_nil)))) (c_icmp .ne (i_ald (r_fld 6 4 (r_loc 0)) (i_loc 12)) (i_fld 6 5 (r_loc 0)))) (c_icmp .lt (i_loc 7) (i_const 70))) (s_seq (s_iast (r_fld 6 4 (r_loc 0)) (i_loc 12) (i_fld 6 5 (r_loc 0)))
 (s_seq (s_iast (r_loc 6) (i_loc 7) (i_loc 12))
 (s_inc 7 1)))))
 (s_inc 11 1))))))
 (s_inc 8 1))))
 (s_seq (s_iast (r_fld 6 2 (r_loc 0)) (i_add (i_loc 4) (i_const 1)) (i_loc 7))
 (s_retZ (e_cond (c_if .gt (i_loc 7)) (i_const 1) (i_const 0)))))))))
theorem O_eW_advance : OKS M_eW_advance := OK_seq (OK_ist (OK_add (OK_mul (OK_iloc _) (OK_const _)) (OK_iloc _))) (OK_seq (OK_ist (OK_iald (OK_rfld (OK_rloc _)) (OK_add (OK_mul (OK_iloc _) (OK_const _)) (OK_iloc _)))) (OK_seq (OK_ast (OK_rald (OK_rfld (OK_rloc _)) (OK_add (OK_iloc _) (OK_const _)))) (OK_seq (OK_ist (OK_const _)) (OK_seq (OK_opf (by simp) (fun K pc env st h bd x y X hd k => J_iadd X hd k) (OK_rloc _) (OK_const _)) (OK_seq (OK_seq (OK_ist (OK_const _)) (OK_whl (OK_icmp (OK_iloc _) (OK_iald (OK_rfld (OK_rloc _)) (OK_iloc _))) (OK_seq (OK_seq (OK_ist (OK_iald (OK_rald (OK_rfld (OK_rloc _)) (OK_iloc _)) (OK_iloc _))) (OK_seq (OK_ist (OK_and (OK_iald (OK_rfld (OK_rald (OK_rfld (OK_rloc _)) (OK_iloc _))) (OK_iloc _)) (OK_iloc _))) (OK_seq (OK_ist (OK_const _)) (OK_whl (OK_cand (OK_icmp (OK_iloc _) (OK_const _)) (OK_if (OK_shr (OK_iloc _) (OK_iloc _)))) (OK_seq (OK_seq (OK_ist (OK_or (OK_iloc _) (OK_shl (OK_const _) (OK_iloc _)))) (OK_sif (OK_cand (OK_cand (OK_if (OK_cS (OK_aI (OK_iloc _) (OK_aI (OK_iloc _) OK_anil)))) (OK_icmp (OK_iald (OK_rfld (OK_rloc _)) (OK_iloc _)) (OK_ifld (OK_rloc _)))) (OK_icmp (OK_iloc _) (OK_const _))) (OK_seq (OK_siast (OK_rfld (OK_rloc _)) (OK_iloc _) (OK_ifld (OK_rloc _))) (OK_seq (OK_siast (OK_rloc _) (OK_iloc _) (OK_iloc _)) OK_inc)))) OK_inc))))) OK_inc))) (OK_seq (OK_siast (OK_rfld (OK_rloc _)) (OK_add (OK_iloc _) (OK_const _)) (OK_iloc _)) (OK_retZ (OK_econd (OK_if (OK_iloc _)) (OK_const _) (OK_const _)))))))))
theorem K_eW_advance : M_eW_advance.1 (6, (kini 1), prog_8_method_6_code, some (.boolean), 13) 0 = some (202, false, []) := by decide +kernel
theorem C_eW_advance {d mc ms : Nat} {av : List Value} {h : FH} {Rr : Option Value → FH → Prop} (hl : (lg_sl av).length ≤ 13) (body : ∀ g : GE, g.1 = d → M_eW_advance.2 g (fun _ _ _ => False) Rr (eent 13 av) h (mc, ms)) : Call 96 d av h mc ms Rr := call_of2 (k := 96) (own := 6) ((mtb_2 (i := 16) (by decide)).trans rfl) (by decide +kernel) rfl O_eW_advance K_eW_advance hl body
/-- method 97: EventStructures$Words.keepDifference(I)V -/
def M_eW_keepDifference : ST := s_seq (s_putI 6 13 (r_loc 0) (i_loc 1))
 (s_seq (s_seq (s_ist 2 (i_const 0))
 (s_whl (c_and (c_icmp .lt (i_loc 2) (i_loc 1)) (c_icmp .lt (i_loc 2) (i_const 8))) (s_seq (s_iast (r_fld 6 12 (r_loc 0)) (i_loc 2) (i_ald (r_fld 6 11 (r_loc 0)) (i_loc 2)))
 (s_inc 2 1))))
 s_ret)
theorem O_eW_keepDifference : OKS M_eW_keepDifference := OK_seq (OK_putI (OK_rloc _) (OK_iloc _)) (OK_seq (OK_seq (OK_ist (OK_const _)) (OK_whl (OK_cand (OK_icmp (OK_iloc _) (OK_iloc _)) (OK_icmp (OK_iloc _) (OK_const _))) (OK_seq (OK_siast (OK_rfld (OK_rloc _)) (OK_iloc _) (OK_iald (OK_rfld (OK_rloc _)) (OK_iloc _))) OK_inc))) OK_ret)
theorem K_eW_keepDifference : M_eW_keepDifference.1 (6, (kini 1), prog_8_method_9_code, none, 3) 0 = some (37, false, []) := by decide +kernel
theorem C_eW_keepDifference {d mc ms : Nat} {av : List Value} {h : FH} {Rr : Option Value → FH → Prop} (hl : (lg_sl av).length ≤ 3) (body : ∀ g : GE, g.1 = d → M_eW_keepDifference.2 g (fun _ _ _ => False) Rr (eent 3 av) h (mc, ms)) : Call 97 d av h mc ms Rr := call_of2 (k := 97) (own := 6) ((mtb_2 (i := 17) (by decide)).trans rfl) (by decide +kernel) rfl O_eW_keepDifference K_eW_keepDifference hl body
/-- method 99: EventStructures$Words.labelOfDifference(I)I -/
def M_eW_labelOfDifference : ST := s_retI (e_cond (c_and (c_if .ge (i_loc 1)) (c_icmp .lt (i_loc 1) (i_const 8))) (i_ald (r_fld 6 12 (r_loc 0)) (i_loc 1)) (i_const (-7)))
theorem O_eW_labelOfDifference : OKS M_eW_labelOfDifference := OK_retI (OK_econd (OK_cand (OK_if (OK_iloc _)) (OK_icmp (OK_iloc _) (OK_const _))) (OK_iald (OK_rfld (OK_rloc _)) (OK_iloc _)) (OK_const _))
theorem K_eW_labelOfDifference : M_eW_labelOfDifference.1 (6, (kini 1), prog_8_method_4_code, some (.int), 2) 0 = some (22, false, []) := by decide +kernel
theorem C_eW_labelOfDifference {d mc ms : Nat} {av : List Value} {h : FH} {Rr : Option Value → FH → Prop} (hl : (lg_sl av).length ≤ 2) (body : ∀ g : GE, g.1 = d → M_eW_labelOfDifference.2 g (fun _ _ _ => False) Rr (eent 2 av) h (mc, ms)) : Call 99 d av h mc ms Rr := call_of2 (k := 99) (own := 6) ((mtb_2 (i := 19) (by decide)).trans rfl) (by decide +kernel) rfl O_eW_labelOfDifference K_eW_labelOfDifference hl body
/-- method 101: EventStructures$Words.countWords(I)I -/
def M_eW_countWords : ST := s_seq (s_if (c_icmp .ne (i_ald (r_fld 6 15 (r_loc 0)) (i_loc 1)) (i_fld 4 7 (r_fld 3 0 (r_ald (r_fld 6 0 (r_loc 0)) (i_loc 1))))) (s_seq (s_iast (r_fld 6 15 (r_loc 0)) (i_loc 1) (i_fld 4 7 (r_fld 3 0 (r_ald (r_fld 6 0 (r_loc 0)) (i_loc 1)))))
 (s_seq (s_cV 91 (r_loc 0) (aI1 (e_cond (c_if .eq (i_loc 1)) (i_const 1) (i_const 0)) (aI1 (e_cond (c_icmp .eq (i_loc 1) (i_const 1)) (i_const 1) (i_const 0)) a_nil)))
 (s_iast (r_fld 6 14 (r_loc 0)) (i_loc 1) (e_cS Value.int 102 (aR1 (r_loc 0) (aI1 (i_loc 1) (aI1 (i_const 0) a_nil))))))))
 (s_retI (i_ald (r_fld 6 14 (r_loc 0)) (i_loc 1)))
theorem O_eW_countWords : OKS M_eW_countWords := OK_seq (OK_sif (OK_icmp (OK_iald (OK_rfld (OK_rloc _)) (OK_iloc _)) (OK_ifld (OK_rfld (OK_rald (OK_rfld (OK_rloc _)) (OK_iloc _))))) (OK_seq (OK_siast (OK_rfld (OK_rloc _)) (OK_iloc _) (OK_ifld (OK_rfld (OK_rald (OK_rfld (OK_rloc _)) (OK_iloc _))))) (OK_seq (OK_scV (OK_rloc _) (OK_aI (OK_econd (OK_if (OK_iloc _)) (OK_const _) (OK_const _)) (OK_aI (OK_econd (OK_icmp (OK_iloc _) (OK_const _)) (OK_const _) (OK_const _)) OK_anil))) (OK_siast (OK_rfld (OK_rloc _)) (OK_iloc _) (OK_cS (OK_aR (OK_rloc _) (OK_aI (OK_iloc _) (OK_aI (OK_const _) OK_anil)))))))) (OK_retI (OK_iald (OK_rfld (OK_rloc _)) (OK_iloc _)))
theorem K_eW_countWords : M_eW_countWords.1 (6, (kini 1), prog_8_method_2_code, some (.int), 2) 0 = some (81, false, []) := by decide +kernel
theorem C_eW_countWords {d mc ms : Nat} {av : List Value} {h : FH} {Rr : Option Value → FH → Prop} (hl : (lg_sl av).length ≤ 2) (body : ∀ g : GE, g.1 = d → M_eW_countWords.2 g (fun _ _ _ => False) Rr (eent 2 av) h (mc, ms)) : Call 101 d av h mc ms Rr := call_of2 (k := 101) (own := 6) ((mtb_2 (i := 21) (by decide)).trans rfl) (by decide +kernel) rfl O_eW_countWords K_eW_countWords hl body
/-- method 102: EventStructures$Words.countFrom(LEventStructures$Words;II)I -/
def M_eW_countFrom : ST := s_seq (s_if (c_icmp .ge (i_loc 2) (i_const 8)) (s_retI (i_const 1)))
 (s_seq (s_ist 3 (e_cV Value.int 93 (r_loc 0) (aI1 (i_loc 2) a_nil)))
 (s_seq (s_if (c_b (e_cV Value.int 94 (r_loc 0) (aI1 (i_loc 3) (aI1 (i_loc 2) a_nil)))) (s_retI (i_ald (r_fld 6 9 (r_loc 0)) (i_loc 3))))
 (s_seq (s_ist 4 (i_const 1))
 (s_seq (s_seq (s_ist 5 (i_const 0))
 (s_whl (c_icmp .lt (i_loc 5) (i_const 6)) (s_seq (s_if (c_b (e_cV Value.int 96 (r_loc 0) (aI1 (i_loc 1) (aI1 (i_loc 2) (aI1 (i_loc 5) a_nil))))) (s_ist 4 (i_add (i_loc 4) (e_cS Value.int 102 (aR1 (r_loc 0) (aI1 (i_loc 1) (aI1 (i_add (i_loc 2) (i_const 1)) a_nil)))))))
 (s_inc 5 1))))
 (s_seq (s_cV 95 (r_loc 0) (aI1 (i_loc 3) (aI1 (i_loc 2) (aI1 (i_loc 4) a_nil))))
 (s_retI (i_loc 4)))))))
theorem O_eW_countFrom : OKS M_eW_countFrom := OK_seq (OK_sif (OK_icmp (OK_iloc _) (OK_const _)) (OK_retI (OK_const _))) (OK_seq (OK_ist (OK_cV (OK_rloc _) (OK_aI (OK_iloc _) OK_anil))) (OK_seq (OK_sif (OK_if (OK_cV (OK_rloc _) (OK_aI (OK_iloc _) (OK_aI (OK_iloc _) OK_anil)))) (OK_retI (OK_iald (OK_rfld (OK_rloc _)) (OK_iloc _)))) (OK_seq (OK_ist (OK_const _)) (OK_seq (OK_seq (OK_ist (OK_const _)) (OK_whl (OK_icmp (OK_iloc _) (OK_const _)) (OK_seq (OK_sif (OK_if (OK_cV (OK_rloc _) (OK_aI (OK_iloc _) (OK_aI (OK_iloc _) (OK_aI (OK_iloc _) OK_anil))))) (OK_ist (OK_add (OK_iloc _) (OK_cS (OK_aR (OK_rloc _) (OK_aI (OK_iloc _) (OK_aI (OK_add (OK_iloc _) (OK_const _)) OK_anil))))))) OK_inc))) (OK_seq (OK_scV (OK_rloc _) (OK_aI (OK_iloc _) (OK_aI (OK_iloc _) (OK_aI (OK_iloc _) OK_anil)))) (OK_retI (OK_iloc _)))))))
theorem K_eW_countFrom : M_eW_countFrom.1 (6, (kini 0), prog_8_method_7_code, some (.int), 6) 0 = some (84, false, []) := by decide +kernel
theorem C_eW_countFrom {d mc ms : Nat} {av : List Value} {h : FH} {Rr : Option Value → FH → Prop} (hl : (lg_sl av).length ≤ 6) (body : ∀ g : GE, g.1 = d → M_eW_countFrom.2 g (fun _ _ _ => False) Rr (eent 6 av) h (mc, ms)) : Call 102 d av h mc ms Rr := call_of2 (k := 102) (own := 6) ((mtb_2 (i := 22) (by decide)).trans rfl) (by decide +kernel) rfl O_eW_countFrom K_eW_countFrom hl body
/-- method 109: EventStructures$Net.empty()V -/
def M_eN_empty : ST := s_seq (s_putI 2 0 (r_loc 0) (i_const 0))
 (s_seq (s_putI 2 1 (r_loc 0) (i_const 0))
 (s_seq (s_putI 2 2 (r_loc 0) (i_const 0))
 s_ret))
theorem O_eN_empty : OKS M_eN_empty := OK_seq (OK_putI (OK_rloc _) (OK_const _)) (OK_seq (OK_putI (OK_rloc _) (OK_const _)) (OK_seq (OK_putI (OK_rloc _) (OK_const _)) OK_ret))
theorem K_eN_empty : M_eN_empty.1 (2, (kini 1), prog_4_method_2_code, none, 1) 0 = some (16, false, []) := by decide +kernel
theorem C_eN_empty {d mc ms : Nat} {av : List Value} {h : FH} {Rr : Option Value → FH → Prop} (hl : (lg_sl av).length ≤ 1) (body : ∀ g : GE, g.1 = d → M_eN_empty.2 g (fun _ _ _ => False) Rr (eent 1 av) h (mc, ms)) : Call 109 d av h mc ms Rr := call_of2 (k := 109) (own := 2) ((mtb_2 (i := 29) (by decide)).trans rfl) (by decide +kernel) rfl O_eN_empty K_eN_empty hl body
/-- method 111: EventStructures$Net.putPlace(Z)I -/
def M_eN_putPlace : ST := s_seq (s_if (c_icmp .ge (i_fld 2 0 (r_loc 0)) (i_const 6)) (s_retI (i_const (-3))))
 (s_seq (s_opf 2 1 .ior (fun x y => x ||| y) (r_loc 0) (e_cond (c_b (i_loc 1)) (i_shl (i_const 1) (i_fld 2 0 (r_loc 0))) (i_const 0)))
 (s_seq (s_opf 2 0 .iadd (fun x y => x + y) (r_loc 0) (i_const 1))
 (s_retI (i_sub (i_fld 2 0 (r_loc 0)) (i_const 1)))))
theorem O_eN_putPlace : OKS M_eN_putPlace := OK_seq (OK_sif (OK_icmp (OK_ifld (OK_rloc _)) (OK_const _)) (OK_retI (OK_const _))) (OK_seq (OK_opf (by simp) (fun K pc env st h bd x y X hd k => J_ior X hd k) (OK_rloc _) (OK_econd (OK_if (OK_iloc _)) (OK_shl (OK_const _) (OK_ifld (OK_rloc _))) (OK_const _))) (OK_seq (OK_opf (by simp) (fun K pc env st h bd x y X hd k => J_iadd X hd k) (OK_rloc _) (OK_const _)) (OK_retI (OK_sub (OK_ifld (OK_rloc _)) (OK_const _)))))
theorem K_eN_putPlace : M_eN_putPlace.1 (2, (kini 1), prog_4_method_4_code, some (.int), 2) 0 = some (52, false, []) := by decide +kernel
theorem C_eN_putPlace {d mc ms : Nat} {av : List Value} {h : FH} {Rr : Option Value → FH → Prop} (hl : (lg_sl av).length ≤ 2) (body : ∀ g : GE, g.1 = d → M_eN_putPlace.2 g (fun _ _ _ => False) Rr (eent 2 av) h (mc, ms)) : Call 111 d av h mc ms Rr := call_of2 (k := 111) (own := 2) ((mtb_2 (i := 31) (by decide)).trans rfl) (by decide +kernel) rfl O_eN_putPlace K_eN_putPlace hl body
/-- method 113: EventStructures$Net.hasPlaces(I)Z -/
def M_eN_hasPlaces : ST := s_retZ (e_cond (c_and (c_if .ge (i_loc 1)) (c_if .eq (i_shr (i_loc 1) (i_fld 2 0 (r_loc 0))))) (i_const 1) (i_const 0))
theorem O_eN_hasPlaces : OKS M_eN_hasPlaces := OK_retZ (OK_econd (OK_cand (OK_if (OK_iloc _)) (OK_if (OK_shr (OK_iloc _) (OK_ifld (OK_rloc _))))) (OK_const _) (OK_const _))
theorem K_eN_hasPlaces : M_eN_hasPlaces.1 (2, (kini 1), prog_4_method_3_code, some (.boolean), 2) 0 = some (19, false, []) := by decide +kernel
theorem C_eN_hasPlaces {d mc ms : Nat} {av : List Value} {h : FH} {Rr : Option Value → FH → Prop} (hl : (lg_sl av).length ≤ 2) (body : ∀ g : GE, g.1 = d → M_eN_hasPlaces.2 g (fun _ _ _ => False) Rr (eent 2 av) h (mc, ms)) : Call 113 d av h mc ms Rr := call_of2 (k := 113) (own := 2) ((mtb_2 (i := 33) (by decide)).trans rfl) (by decide +kernel) rfl O_eN_hasPlaces K_eN_hasPlaces hl body
/-- method 114: EventStructures$Net.putTransition(III)I -/
def M_eN_putTransition : ST := s_seq (s_if (c_icmp .ge (i_fld 2 2 (r_loc 0)) (i_const 6)) (s_retI (i_const (-3))))
 (s_seq (s_iast (r_fld 2 3 (r_loc 0)) (i_fld 2 2 (r_loc 0)) (i_loc 1))
 (s_seq (s_iast (r_fld 2 4 (r_loc 0)) (i_fld 2 2 (r_loc 0)) (i_loc 2))
 (s_seq (s_iast (r_fld 2 5 (r_loc 0)) (i_fld 2 2 (r_loc 0)) (i_loc 3))
 (s_seq (s_opf 2 2 .iadd (fun x y => x + y) (r_loc 0) (i_const 1))
 (s_retI (i_sub (i_fld 2 2 (r_loc 0)) (i_const 1)))))))
theorem O_eN_putTransition : OKS M_eN_putTransition := OK_seq (OK_sif (OK_icmp (OK_ifld (OK_rloc _)) (OK_const _)) (OK_retI (OK_const _))) (OK_seq (OK_siast (OK_rfld (OK_rloc _)) (OK_ifld (OK_rloc _)) (OK_iloc _)) (OK_seq (OK_siast (OK_rfld (OK_rloc _)) (OK_ifld (OK_rloc _)) (OK_iloc _)) (OK_seq (OK_siast (OK_rfld (OK_rloc _)) (OK_ifld (OK_rloc _)) (OK_iloc _)) (OK_seq (OK_opf (by simp) (fun K pc env st h bd x y X hd k => J_iadd X hd k) (OK_rloc _) (OK_const _)) (OK_retI (OK_sub (OK_ifld (OK_rloc _)) (OK_const _)))))))
theorem K_eN_putTransition : M_eN_putTransition.1 (2, (kini 1), prog_4_method_5_code, some (.int), 4) 0 = some (59, false, []) := by decide +kernel
theorem C_eN_putTransition {d mc ms : Nat} {av : List Value} {h : FH} {Rr : Option Value → FH → Prop} (hl : (lg_sl av).length ≤ 4) (body : ∀ g : GE, g.1 = d → M_eN_putTransition.2 g (fun _ _ _ => False) Rr (eent 4 av) h (mc, ms)) : Call 114 d av h mc ms Rr := call_of2 (k := 114) (own := 2) ((mtb_2 (i := 34) (by decide)).trans rfl) (by decide +kernel) rfl O_eN_putTransition K_eN_putTransition hl body
/-- method 116: EventStructures$Unfolding.build(LEventStructures$Net;)Z -/
def M_eU_build : ST := s_seq (s_cV 25 (r_fld 5 0 (r_loc 0)) a_nil)
 (s_seq (s_putI 5 1 (r_loc 0) (i_const 0))
 (s_seq (s_cV 117 (r_loc 0) (aI1 (i_fld 2 1 (r_loc 1)) (aI1 (i_const (-1)) a_nil)))
 (s_seq (s_seq (s_ist 2 (i_const 0))
 (s_whl (c_icmp .le (i_loc 2) (i_const 8)) (s_seq (s_seq (s_ist 3 (e_cV Value.int 118 (r_loc 0) (aR1 (r_loc 1) a_nil)))
 (s_seq (s_if (c_if .lt (i_loc 3)) (s_retZ (i_const 1)))
 (s_if (c_not (c_b (e_cV Value.int 123 (r_loc 0) (aR1 (r_loc 1) (aI1 (i_loc 3) a_nil))))) (s_retZ (i_const 0)))))
 (s_inc 2 1))))
 (s_retZ (i_const 0)))))
theorem O_eU_build : OKS M_eU_build := OK_seq (OK_scV (OK_rfld (OK_rloc _)) OK_anil) (OK_seq (OK_putI (OK_rloc _) (OK_const _)) (OK_seq (OK_scV (OK_rloc _) (OK_aI (OK_ifld (OK_rloc _)) (OK_aI (OK_const _) OK_anil))) (OK_seq (OK_seq (OK_ist (OK_const _)) (OK_whl (OK_icmp (OK_iloc _) (OK_const _)) (OK_seq (OK_seq (OK_ist (OK_cV (OK_rloc _) (OK_aR (OK_rloc _) OK_anil))) (OK_seq (OK_sif (OK_if (OK_iloc _)) (OK_retZ (OK_const _))) (OK_sif (OK_not (OK_if (OK_cV (OK_rloc _) (OK_aR (OK_rloc _) (OK_aI (OK_iloc _) OK_anil))))) (OK_retZ (OK_const _))))) OK_inc))) (OK_retZ (OK_const _)))))
theorem K_eU_build : M_eU_build.1 (5, (kini 1), prog_7_method_2_code, some (.boolean), 4) 0 = some (60, false, []) := by decide +kernel
theorem C_eU_build {d mc ms : Nat} {av : List Value} {h : FH} {Rr : Option Value → FH → Prop} (hl : (lg_sl av).length ≤ 4) (body : ∀ g : GE, g.1 = d → M_eU_build.2 g (fun _ _ _ => False) Rr (eent 4 av) h (mc, ms)) : Call 116 d av h mc ms Rr := call_of2 (k := 116) (own := 5) ((mtb_2 (i := 36) (by decide)).trans rfl) (by decide +kernel) rfl O_eU_build K_eU_build hl body
/-- method 117: EventStructures$Unfolding.produce(II)V -/
def M_eU_produce : ST := s_seq (s_seq (s_ist 3 (i_const 0))
 (s_whl (c_icmp .lt (i_loc 3) (i_const 6)) (s_seq (s_if (c_and (c_b (e_cS Value.int 19 (aI1 (i_loc 1) (aI1 (i_loc 3) a_nil)))) (c_icmp .lt (i_fld 5 1 (r_loc 0)) (i_const 54))) (s_seq (s_iast (r_fld 5 2 (r_loc 0)) (i_fld 5 1 (r_loc 0)) (i_loc 3))
 (s_seq (s_iast (r_fld 5 3 (r_loc 0)) (i_fld 5 1 (r_loc 0)) (i_loc 2))
 (s_opf 5 1 .iadd (fun x y => x + y) (r_loc 0) (i_const 1)))))
 (s_inc 3 1))))
 s_ret
theorem O_eU_produce : OKS M_eU_produce := OK_seq (OK_seq (OK_ist (OK_const _)) (OK_whl (OK_icmp (OK_iloc _) (OK_const _)) (OK_seq (OK_sif (OK_cand (OK_if (OK_cS (OK_aI (OK_iloc _) (OK_aI (OK_iloc _) OK_anil)))) (OK_icmp (OK_ifld (OK_rloc _)) (OK_const _))) (OK_seq (OK_siast (OK_rfld (OK_rloc _)) (OK_ifld (OK_rloc _)) (OK_iloc _)) (OK_seq (OK_siast (OK_rfld (OK_rloc _)) (OK_ifld (OK_rloc _)) (OK_iloc _)) (OK_opf (by simp) (fun K pc env st h bd x y X hd k => J_iadd X hd k) (OK_rloc _) (OK_const _))))) OK_inc))) OK_ret
theorem K_eU_produce : M_eU_produce.1 (5, (kini 1), prog_7_method_3_code, none, 4) 0 = some (62, false, []) := by decide +kernel
theorem C_eU_produce {d mc ms : Nat} {av : List Value} {h : FH} {Rr : Option Value → FH → Prop} (hl : (lg_sl av).length ≤ 4) (body : ∀ g : GE, g.1 = d → M_eU_produce.2 g (fun _ _ _ => False) Rr (eent 4 av) h (mc, ms)) : Call 117 d av h mc ms Rr := call_of2 (k := 117) (own := 5) ((mtb_2 (i := 37) (by decide)).trans rfl) (by decide +kernel) rfl O_eU_produce K_eU_produce hl body
/-- method 118: EventStructures$Unfolding.findNext(LEventStructures$Net;)I -/
def M_eU_findNext : ST := s_seq (s_seq (s_ist 2 (i_const 0))
 (s_whl (c_icmp .lt (i_loc 2) (i_fld 2 2 (r_loc 1))) (s_seq (s_if (c_b (e_cS Value.int 119 (aR1 (r_loc 0) (aI1 (i_ald (r_fld 2 3 (r_loc 1)) (i_loc 2)) (aI1 (i_loc 2) (aI1 (i_const 0) (aL1 (l_const 0) a_nil))))))) (s_retI (i_loc 2)))
 (s_inc 2 1))))
 (s_retI (i_const (-1)))
theorem O_eU_findNext : OKS M_eU_findNext := OK_seq (OK_seq (OK_ist (OK_const _)) (OK_whl (OK_icmp (OK_iloc _) (OK_ifld (OK_rloc _))) (OK_seq (OK_sif (OK_if (OK_cS (OK_aR (OK_rloc _) (OK_aI (OK_iald (OK_rfld (OK_rloc _)) (OK_iloc _)) (OK_aI (OK_iloc _) (OK_aI (OK_const _) (OK_aL (OK_lconst _) OK_anil))))))) (OK_retI (OK_iloc _))) OK_inc))) (OK_retI (OK_const _))
theorem K_eU_findNext : M_eU_findNext.1 (5, (kini 1), prog_7_method_4_code, some (.int), 3) 0 = some (36, false, []) := by decide +kernel
theorem C_eU_findNext {d mc ms : Nat} {av : List Value} {h : FH} {Rr : Option Value → FH → Prop} (hl : (lg_sl av).length ≤ 3) (body : ∀ g : GE, g.1 = d → M_eU_findNext.2 g (fun _ _ _ => False) Rr (eent 3 av) h (mc, ms)) : Call 118 d av h mc ms Rr := call_of2 (k := 118) (own := 5) ((mtb_2 (i := 38) (by decide)).trans rfl) (by decide +kernel) rfl O_eU_findNext K_eU_findNext hl body
/-- method 119: EventStructures$Unfolding.seekRow(LEventStructures$Unfolding;IIIJ)Z -/
def M_eU_seekRow : ST := s_seq (s_if (c_icmp .ge (i_loc 3) (i_const 6)) (s_seq (s_putL 5 7 (r_loc 0) (l_loc 4))
 (s_retZ (e_cond (c_not (c_b (e_cV Value.int 120 (r_loc 0) (aI1 (i_loc 2) (aL1 (l_loc 4) a_nil))))) (i_const 1) (i_const 0)))))
 (s_seq (s_if (c_not (c_b (e_cS Value.int 19 (aI1 (i_loc 1) (aI1 (i_loc 3) a_nil))))) (s_retZ (e_cS Value.int 119 (aR1 (r_loc 0) (aI1 (i_loc 1) (aI1 (i_loc 2) (aI1 (i_add (i_loc 3) (i_const 1)) (aL1 (l_loc 4) a_nil))))))))
 (s_seq (s_seq (s_ist 6 (i_const 0))
 (s_whl (c_icmp .lt (i_loc 6) (i_fld 5 1 (r_loc 0))) (s_seq (s_seq (s_lst 7 (l_or (l_loc 4) (l_shl (l_const 1) (i_loc 6))))
 (s_if (c_and (c_and (c_icmp .eq (i_ald (r_fld 5 2 (r_loc 0)) (i_loc 6)) (i_loc 3)) (c_b (e_cV Value.int 121 (r_loc 0) (aL1 (l_loc 7) a_nil)))) (c_b (e_cS Value.int 119 (aR1 (r_loc 0) (aI1 (i_loc 1) (aI1 (i_loc 2) (aI1 (i_add (i_loc 3) (i_const 1)) (aL1 (l_loc 7) a_nil)))))))) (s_retZ (i_const 1))))
 (s_inc 6 1))))
 (s_retZ (i_const 0))))
theorem O_eU_seekRow : OKS M_eU_seekRow := OK_seq (OK_sif (OK_icmp (OK_iloc _) (OK_const _)) (OK_seq (OK_putL (OK_rloc _) (OK_lloc _)) (OK_retZ (OK_econd (OK_not (OK_if (OK_cV (OK_rloc _) (OK_aI (OK_iloc _) (OK_aL (OK_lloc _) OK_anil))))) (OK_const _) (OK_const _))))) (OK_seq (OK_sif (OK_not (OK_if (OK_cS (OK_aI (OK_iloc _) (OK_aI (OK_iloc _) OK_anil))))) (OK_retZ (OK_cS (OK_aR (OK_rloc _) (OK_aI (OK_iloc _) (OK_aI (OK_iloc _) (OK_aI (OK_add (OK_iloc _) (OK_const _)) (OK_aL (OK_lloc _) OK_anil)))))))) (OK_seq (OK_seq (OK_ist (OK_const _)) (OK_whl (OK_icmp (OK_iloc _) (OK_ifld (OK_rloc _))) (OK_seq (OK_seq (OK_lst (OK_lor (OK_lloc _) (OK_lshl (OK_lconst _) (OK_iloc _)))) (OK_sif (OK_cand (OK_cand (OK_icmp (OK_iald (OK_rfld (OK_rloc _)) (OK_iloc _)) (OK_iloc _)) (OK_if (OK_cV (OK_rloc _) (OK_aL (OK_lloc _) OK_anil)))) (OK_if (OK_cS (OK_aR (OK_rloc _) (OK_aI (OK_iloc _) (OK_aI (OK_iloc _) (OK_aI (OK_add (OK_iloc _) (OK_const _)) (OK_aL (OK_lloc _) OK_anil)))))))) (OK_retZ (OK_const _)))) OK_inc))) (OK_retZ (OK_const _))))
theorem K_eU_seekRow : M_eU_seekRow.1 (5, (kini 0), prog_7_method_5_code, some (.boolean), 9) 0 = some (113, false, []) := by decide +kernel
theorem C_eU_seekRow {d mc ms : Nat} {av : List Value} {h : FH} {Rr : Option Value → FH → Prop} (hl : (lg_sl av).length ≤ 9) (body : ∀ g : GE, g.1 = d → M_eU_seekRow.2 g (fun _ _ _ => False) Rr (eent 9 av) h (mc, ms)) : Call 119 d av h mc ms Rr := call_of2 (k := 119) (own := 5) ((mtb_2 (i := 39) (by decide)).trans rfl) (by decide +kernel) rfl O_eU_seekRow K_eU_seekRow hl body
/-- method 120: EventStructures$Unfolding.isMade(IJ)Z -/
def M_eU_isMade : ST := s_seq (s_seq (s_ist 4 (i_const 0))
 (s_whl (c_icmp .lt (i_loc 4) (i_fld 4 5 (r_fld 5 0 (r_loc 0)))) (s_seq (s_if (c_and (c_icmp .eq (i_ald (r_fld 5 4 (r_loc 0)) (i_loc 4)) (i_loc 1)) (c_lcmp .eq (l_ald (r_fld 5 5 (r_loc 0)) (i_loc 4)) (l_loc 2))) (s_retZ (i_const 1)))
 (s_inc 4 1))))
 (s_retZ (i_const 0))
theorem O_eU_isMade : OKS M_eU_isMade := OK_seq (OK_seq (OK_ist (OK_const _)) (OK_whl (OK_icmp (OK_iloc _) (OK_ifld (OK_rfld (OK_rloc _)))) (OK_seq (OK_sif (OK_cand (OK_icmp (OK_iald (OK_rfld (OK_rloc _)) (OK_iloc _)) (OK_iloc _)) (OK_lcmp (OK_lald (OK_rfld (OK_rloc _)) (OK_iloc _)) (OK_lloc _))) (OK_retZ (OK_const _))) OK_inc))) (OK_retZ (OK_const _))
theorem K_eU_isMade : M_eU_isMade.1 (5, (kini 1), prog_7_method_6_code, some (.boolean), 5) 0 = some (48, false, []) := by decide +kernel
theorem C_eU_isMade {d mc ms : Nat} {av : List Value} {h : FH} {Rr : Option Value → FH → Prop} (hl : (lg_sl av).length ≤ 5) (body : ∀ g : GE, g.1 = d → M_eU_isMade.2 g (fun _ _ _ => False) Rr (eent 5 av) h (mc, ms)) : Call 120 d av h mc ms Rr := call_of2 (k := 120) (own := 5) ((mtb_3 (i := 0) (by decide)).trans rfl) (by decide +kernel) rfl O_eU_isMade K_eU_isMade hl body
/-- method 121: EventStructures$Unfolding.canHold(J)Z -/
def M_eU_canHold : ST := s_seq (s_ist 3 (e_cV Value.int 122 (r_loc 0) (aL1 (l_loc 1) a_nil)))
 (s_seq (s_if (c_not (c_b (e_cV Value.int 34 (r_fld 5 0 (r_loc 0)) (aI1 (i_loc 3) a_nil)))) (s_retZ (i_const 0)))
 (s_seq (s_seq (s_ist 4 (i_const 0))
 (s_whl (c_icmp .lt (i_loc 4) (i_fld 4 5 (r_fld 5 0 (r_loc 0)))) (s_seq (s_if (c_and (c_b (e_cS Value.int 19 (aI1 (i_loc 3) (aI1 (i_loc 4) a_nil)))) (c_lcmp .ne (l_and (l_ald (r_fld 5 5 (r_loc 0)) (i_loc 4)) (l_loc 1)) (l_const 0))) (s_retZ (i_const 0)))
 (s_inc 4 1))))
 (s_retZ (i_const 1))))
theorem O_eU_canHold : OKS M_eU_canHold := OK_seq (OK_ist (OK_cV (OK_rloc _) (OK_aL (OK_lloc _) OK_anil))) (OK_seq (OK_sif (OK_not (OK_if (OK_cV (OK_rfld (OK_rloc _)) (OK_aI (OK_iloc _) OK_anil)))) (OK_retZ (OK_const _))) (OK_seq (OK_seq (OK_ist (OK_const _)) (OK_whl (OK_icmp (OK_iloc _) (OK_ifld (OK_rfld (OK_rloc _)))) (OK_seq (OK_sif (OK_cand (OK_if (OK_cS (OK_aI (OK_iloc _) (OK_aI (OK_iloc _) OK_anil)))) (OK_lcmp (OK_land (OK_lald (OK_rfld (OK_rloc _)) (OK_iloc _)) (OK_lloc _)) (OK_lconst _))) (OK_retZ (OK_const _))) OK_inc))) (OK_retZ (OK_const _))))
theorem K_eU_canHold : M_eU_canHold.1 (5, (kini 1), prog_7_method_7_code, some (.boolean), 5) 0 = some (67, false, []) := by decide +kernel
theorem C_eU_canHold {d mc ms : Nat} {av : List Value} {h : FH} {Rr : Option Value → FH → Prop} (hl : (lg_sl av).length ≤ 5) (body : ∀ g : GE, g.1 = d → M_eU_canHold.2 g (fun _ _ _ => False) Rr (eent 5 av) h (mc, ms)) : Call 121 d av h mc ms Rr := call_of2 (k := 121) (own := 5) ((mtb_3 (i := 1) (by decide)).trans rfl) (by decide +kernel) rfl O_eU_canHold K_eU_canHold hl body
/-- method 122: EventStructures$Unfolding.producersWithPasts(J)I -/
def M_eU_producersWithPasts : ST := s_seq (s_ist 3 (i_const 0))
 (s_seq (s_seq (s_ist 4 (i_const 0))
 (s_whl (c_icmp .lt (i_loc 4) (i_fld 5 1 (r_loc 0))) (s_seq (s_seq (s_ist 5 (i_ald (r_fld 5 3 (r_loc 0)) (i_loc 4)))
 (s_if (c_and (c_lcmp .ne (l_and (l_shr (l_loc 1) (i_loc 4)) (l_const 1)) (l_const 0)) (c_b (e_cV Value.int 14 (r_fld 5 0 (r_loc 0)) (aI1 (i_loc 5) a_nil)))) (s_ist 3 (i_or (i_loc 3) (i_ald (r_fld 5 6 (r_loc 0)) (i_loc 5))))))
 (s_inc 4 1))))
 (s_retI (i_loc 3)))
theorem O_eU_producersWithPasts : OKS M_eU_producersWithPasts := OK_seq (OK_ist (OK_const _)) (OK_seq (OK_seq (OK_ist (OK_const _)) (OK_whl (OK_icmp (OK_iloc _) (OK_ifld (OK_rloc _))) (OK_seq (OK_seq (OK_ist (OK_iald (OK_rfld (OK_rloc _)) (OK_iloc _))) (OK_sif (OK_cand (OK_lcmp (OK_land (OK_lshr (OK_lloc _) (OK_iloc _)) (OK_lconst _)) (OK_lconst _)) (OK_if (OK_cV (OK_rfld (OK_rloc _)) (OK_aI (OK_iloc _) OK_anil)))) (OK_ist (OK_or (OK_iloc _) (OK_iald (OK_rfld (OK_rloc _)) (OK_iloc _)))))) OK_inc))) (OK_retI (OK_iloc _)))
theorem K_eU_producersWithPasts : M_eU_producersWithPasts.1 (5, (kini 1), prog_7_method_8_code, some (.int), 6) 0 = some (64, false, []) := by decide +kernel
theorem C_eU_producersWithPasts {d mc ms : Nat} {av : List Value} {h : FH} {Rr : Option Value → FH → Prop} (hl : (lg_sl av).length ≤ 6) (body : ∀ g : GE, g.1 = d → M_eU_producersWithPasts.2 g (fun _ _ _ => False) Rr (eent 6 av) h (mc, ms)) : Call 122 d av h mc ms Rr := call_of2 (k := 122) (own := 5) ((mtb_3 (i := 2) (by decide)).trans rfl) (by decide +kernel) rfl O_eU_producersWithPasts K_eU_producersWithPasts hl body
/-- method 123: EventStructures$Unfolding.create(LEventStructures$Net;I)Z -/
def M_eU_create : ST := s_seq (s_ist 3 (e_cV Value.int 11 (r_fld 5 0 (r_loc 0)) (aI1 (i_ald (r_fld 2 5 (r_loc 1)) (i_loc 2)) (aI1 (i_const 1) a_nil))))
 (s_seq (s_if (c_if .lt (i_loc 3)) (s_retZ (i_const 0)))
 (s_seq (s_iast (r_fld 5 4 (r_loc 0)) (i_loc 3) (i_loc 2))
 (s_seq (s_last (r_fld 5 5 (r_loc 0)) (i_loc 3) (l_fld 5 7 (r_loc 0)))
 (s_seq (s_iast (r_fld 5 6 (r_loc 0)) (i_loc 3) (i_or (e_cV Value.int 122 (r_loc 0) (aL1 (l_fld 5 7 (r_loc 0)) a_nil)) (i_shl (i_const 1) (i_loc 3))))
 (s_seq (s_seq (s_ist 4 (i_const 0))
 (s_whl (c_icmp .lt (i_loc 4) (i_fld 5 1 (r_loc 0))) (s_seq (s_if (c_and (c_lcmp .ne (l_and (l_shr (l_fld 5 7 (r_loc 0)) (i_loc 4)) (l_const 1)) (l_const 0)) (c_icmp .ne (i_ald (r_fld 5 3 (r_loc 0)) (i_loc 4)) (i_const (-1)))) (s_opaI .ior (fun x y => x ||| y) (r_fld 4 2 (r_fld 5 0 (r_loc 0))) (i_loc 3) (i_shl (i_const 1) (i_ald (r_fld 5 3 (r_loc 0)) (i_loc 4)))))
 (s_inc 4 1))))
 (s_seq (s_seq (s_ist 4 (i_const 0))
 (s_whl (c_icmp .lt (i_loc 4) (i_loc 3)) (s_seq (s_if (c_lcmp .ne (l_and (l_ald (r_fld 5 5 (r_loc 0)) (i_loc 4)) (l_fld 5 7 (r_loc 0))) (l_const 0)) (s_seq (s_opaI .ior (fun x y => x ||| y) (r_fld 4 3 (r_fld 5 0 (r_loc 0))) (i_loc 4) (i_shl (i_const 1) (i_loc 3)))
 (s_opaI .ior (fun x y => x ||| y) (r_fld 4 3 (r_fld 5 0 (r_loc 0))) (i_loc 3) (i_shl (i_const 1) (i_loc 4)))))
 (s_inc 4 1))))
 (s_seq (s_cV 117 (r_loc 0) (aI1 (i_ald (r_fld 2 4 (r_loc 1)) (i_loc 2)) (aI1 (i_loc 3) a_nil)))
 (s_retZ (i_const 1)))))))))
theorem O_eU_create : OKS M_eU_create := OK_seq (OK_ist (OK_cV (OK_rfld (OK_rloc _)) (OK_aI (OK_iald (OK_rfld (OK_rloc _)) (OK_iloc _)) (OK_aI (OK_const _) OK_anil)))) (OK_seq (OK_sif (OK_if (OK_iloc _)) (OK_retZ (OK_const _))) (OK_seq (OK_siast (OK_rfld (OK_rloc _)) (OK_iloc _) (OK_iloc _)) (OK_seq (OK_slast (OK_rfld (OK_rloc _)) (OK_iloc _) (OK_lfld (OK_rloc _))) (OK_seq (OK_siast (OK_rfld (OK_rloc _)) (OK_iloc _) (OK_or (OK_cV (OK_rloc _) (OK_aL (OK_lfld (OK_rloc _)) OK_anil)) (OK_shl (OK_const _) (OK_iloc _)))) (OK_seq (OK_seq (OK_ist (OK_const _)) (OK_whl (OK_icmp (OK_iloc _) (OK_ifld (OK_rloc _))) (OK_seq (OK_sif (OK_cand (OK_lcmp (OK_land (OK_lshr (OK_lfld (OK_rloc _)) (OK_iloc _)) (OK_lconst _)) (OK_lconst _)) (OK_icmp (OK_iald (OK_rfld (OK_rloc _)) (OK_iloc _)) (OK_const _))) (OK_opaI (by simp) (fun K pc env st h bd x y X hd k => J_ior X hd k) (OK_rfld (OK_rfld (OK_rloc _))) (OK_iloc _) (OK_shl (OK_const _) (OK_iald (OK_rfld (OK_rloc _)) (OK_iloc _))))) OK_inc))) (OK_seq (OK_seq (OK_ist (OK_const _)) (OK_whl (OK_icmp (OK_iloc _) (OK_iloc _)) (OK_seq (OK_sif (OK_lcmp (OK_land (OK_lald (OK_rfld (OK_rloc _)) (OK_iloc _)) (OK_lfld (OK_rloc _))) (OK_lconst _)) (OK_seq (OK_opaI (by simp) (fun K pc env st h bd x y X hd k => J_ior X hd k) (OK_rfld (OK_rfld (OK_rloc _))) (OK_iloc _) (OK_shl (OK_const _) (OK_iloc _))) (OK_opaI (by simp) (fun K pc env st h bd x y X hd k => J_ior X hd k) (OK_rfld (OK_rfld (OK_rloc _))) (OK_iloc _) (OK_shl (OK_const _) (OK_iloc _))))) OK_inc))) (OK_seq (OK_scV (OK_rloc _) (OK_aI (OK_iald (OK_rfld (OK_rloc _)) (OK_iloc _)) (OK_aI (OK_iloc _) OK_anil))) (OK_retZ (OK_const _)))))))))
theorem K_eU_create : M_eU_create.1 (5, (kini 1), prog_7_method_9_code, some (.boolean), 5) 0 = some (197, false, []) := by decide +kernel
theorem C_eU_create {d mc ms : Nat} {av : List Value} {h : FH} {Rr : Option Value → FH → Prop} (hl : (lg_sl av).length ≤ 5) (body : ∀ g : GE, g.1 = d → M_eU_create.2 g (fun _ _ _ => False) Rr (eent 5 av) h (mc, ms)) : Call 123 d av h mc ms Rr := call_of2 (k := 123) (own := 5) ((mtb_3 (i := 3) (by decide)).trans rfl) (by decide +kernel) rfl O_eU_create K_eU_create hl body
/-- method 126: EventStructures$Language.put(I)I -/
def M_eL_put : ST := s_seq (s_if (c_icmp .ge (i_fld 1 2 (r_loc 0)) (i_const 40)) (s_retI (i_const (-3))))
 (s_seq (s_iast (r_fld 1 1 (r_loc 0)) (i_fld 1 2 (r_loc 0)) (i_loc 1))
 (s_seq (s_opf 1 2 .iadd (fun x y => x + y) (r_loc 0) (i_const 1))
 (s_retI (i_fld 1 2 (r_loc 0)))))
theorem O_eL_put : OKS M_eL_put := OK_seq (OK_sif (OK_icmp (OK_ifld (OK_rloc _)) (OK_const _)) (OK_retI (OK_const _))) (OK_seq (OK_siast (OK_rfld (OK_rloc _)) (OK_ifld (OK_rloc _)) (OK_iloc _)) (OK_seq (OK_opf (by simp) (fun K pc env st h bd x y X hd k => J_iadd X hd k) (OK_rloc _) (OK_const _)) (OK_retI (OK_ifld (OK_rloc _)))))
theorem K_eL_put : M_eL_put.1 (1, (kini 1), prog_3_method_2_code, some (.int), 2) 0 = some (37, false, []) := by decide +kernel
theorem C_eL_put {d mc ms : Nat} {av : List Value} {h : FH} {Rr : Option Value → FH → Prop} (hl : (lg_sl av).length ≤ 2) (body : ∀ g : GE, g.1 = d → M_eL_put.2 g (fun _ _ _ => False) Rr (eent 2 av) h (mc, ms)) : Call 126 d av h mc ms Rr := call_of2 (k := 126) (own := 1) ((mtb_3 (i := 6) (by decide)).trans rfl) (by decide +kernel) rfl O_eL_put K_eL_put hl body
/-- method 128: EventStructures$Language.errorPosition()I -/
def M_eL_errorPosition : ST := s_seq (s_ist 1 (i_const 0))
 (s_seq (s_ist 2 (i_const 1))
 (s_seq (s_seq (s_ist 3 (i_const 0))
 (s_whl (c_icmp .lt (i_loc 3) (i_fld 1 2 (r_loc 0))) (s_seq (s_seq (s_ist 4 (i_ald (r_fld 1 1 (r_loc 0)) (i_loc 3)))
 (s_ite (c_and (c_b (i_loc 2)) (c_icmp .eq (i_loc 4) (i_const 40))) (s_inc 1 1) (s_ite (c_and (c_b (i_loc 2)) (c_b (e_cS Value.int 129 (aI1 (i_loc 4) a_nil)))) (s_ist 2 (i_const 0)) (s_ite (c_and (c_and (c_not (c_b (i_loc 2))) (c_icmp .eq (i_loc 4) (i_const 41))) (c_if .gt (i_loc 1))) (s_inc 1 (-1)) (s_ite (c_and (c_not (c_b (i_loc 2))) (c_if .gt (e_cS Value.int 130 (aI1 (i_loc 4) a_nil)))) (s_ist 2 (i_const 1)) (s_retI (i_loc 3)))))))
 (s_inc 3 1))))
 (s_retI (e_cond (c_or (c_b (i_loc 2)) (c_if .gt (i_loc 1))) (i_fld 1 2 (r_loc 0)) (i_const (-1))))))
theorem O_eL_errorPosition : OKS M_eL_errorPosition := OK_seq (OK_ist (OK_const _)) (OK_seq (OK_ist (OK_const _)) (OK_seq (OK_seq (OK_ist (OK_const _)) (OK_whl (OK_icmp (OK_iloc _) (OK_ifld (OK_rloc _))) (OK_seq (OK_seq (OK_ist (OK_iald (OK_rfld (OK_rloc _)) (OK_iloc _))) (OK_ite (OK_cand (OK_if (OK_iloc _)) (OK_icmp (OK_iloc _) (OK_const _))) OK_inc (OK_ite (OK_cand (OK_if (OK_iloc _)) (OK_if (OK_cS (OK_aI (OK_iloc _) OK_anil)))) (OK_ist (OK_const _)) (OK_ite (OK_cand (OK_cand (OK_not (OK_if (OK_iloc _))) (OK_icmp (OK_iloc _) (OK_const _))) (OK_if (OK_iloc _))) OK_inc (OK_ite (OK_cand (OK_not (OK_if (OK_iloc _))) (OK_if (OK_cS (OK_aI (OK_iloc _) OK_anil)))) (OK_ist (OK_const _)) (OK_retI (OK_iloc _))))))) OK_inc))) (OK_retI (OK_econd (OK_cor (OK_if (OK_iloc _)) (OK_if (OK_iloc _))) (OK_ifld (OK_rloc _)) (OK_const _)))))
theorem K_eL_errorPosition : M_eL_errorPosition.1 (1, (kini 1), prog_3_method_6_code, some (.int), 5) 0 = some (119, false, []) := by decide +kernel
theorem C_eL_errorPosition {d mc ms : Nat} {av : List Value} {h : FH} {Rr : Option Value → FH → Prop} (hl : (lg_sl av).length ≤ 5) (body : ∀ g : GE, g.1 = d → M_eL_errorPosition.2 g (fun _ _ _ => False) Rr (eent 5 av) h (mc, ms)) : Call 128 d av h mc ms Rr := call_of2 (k := 128) (own := 1) ((mtb_3 (i := 8) (by decide)).trans rfl) (by decide +kernel) rfl O_eL_errorPosition K_eL_errorPosition hl body
/-- method 129: EventStructures$Language.isAtom(I)Z -/
def M_eL_isAtom : ST := s_retZ (e_cond (c_or (c_icmp .eq (i_loc 0) (i_const 48)) (c_and (c_icmp .ge (i_loc 0) (i_const 97)) (c_icmp .lt (i_loc 0) (i_const 103)))) (i_const 1) (i_const 0))
theorem O_eL_isAtom : OKS M_eL_isAtom := OK_retZ (OK_econd (OK_cor (OK_icmp (OK_iloc _) (OK_const _)) (OK_cand (OK_icmp (OK_iloc _) (OK_const _)) (OK_icmp (OK_iloc _) (OK_const _)))) (OK_const _) (OK_const _))
theorem K_eL_isAtom : M_eL_isAtom.1 (1, (kini 0), prog_3_method_5_code, some (.boolean), 1) 0 = some (24, false, []) := by decide +kernel
theorem C_eL_isAtom {d mc ms : Nat} {av : List Value} {h : FH} {Rr : Option Value → FH → Prop} (hl : (lg_sl av).length ≤ 1) (body : ∀ g : GE, g.1 = d → M_eL_isAtom.2 g (fun _ _ _ => False) Rr (eent 1 av) h (mc, ms)) : Call 129 d av h mc ms Rr := call_of2 (k := 129) (own := 1) ((mtb_3 (i := 9) (by decide)).trans rfl) (by decide +kernel) rfl O_eL_isAtom K_eL_isAtom hl body
/-- method 130: EventStructures$Language.rank(I)I -/
def M_eL_rank : ST := s_retI (e_cond (c_icmp .eq (i_loc 0) (i_const 43)) (i_const 1) (e_cond (c_icmp .eq (i_loc 0) (i_const 124)) (i_const 2) (e_cond (c_icmp .eq (i_loc 0) (i_const 59)) (i_const 3) (i_const 0))))
theorem O_eL_rank : OKS M_eL_rank := OK_retI (OK_econd (OK_icmp (OK_iloc _) (OK_const _)) (OK_const _) (OK_econd (OK_icmp (OK_iloc _) (OK_const _)) (OK_const _) (OK_econd (OK_icmp (OK_iloc _) (OK_const _)) (OK_const _) (OK_const _))))
theorem K_eL_rank : M_eL_rank.1 (1, (kini 0), prog_3_method_4_code, some (.int), 1) 0 = some (32, false, []) := by decide +kernel
theorem C_eL_rank {d mc ms : Nat} {av : List Value} {h : FH} {Rr : Option Value → FH → Prop} (hl : (lg_sl av).length ≤ 1) (body : ∀ g : GE, g.1 = d → M_eL_rank.2 g (fun _ _ _ => False) Rr (eent 1 av) h (mc, ms)) : Call 130 d av h mc ms Rr := call_of2 (k := 130) (own := 1) ((mtb_3 (i := 10) (by decide)).trans rfl) (by decide +kernel) rfl O_eL_rank K_eL_rank hl body
/-- method 131: EventStructures$Language.evaluate()Z -/
def M_eL_evaluate : ST := s_seq (s_cV 25 (r_fld 1 0 (r_loc 0)) a_nil)
 (s_seq (s_putI 1 4 (r_loc 0) (i_const 0))
 (s_seq (s_putI 1 6 (r_loc 0) (i_const 0))
 (s_seq (s_seq (s_ist 1 (i_const 0))
 (s_whl (c_icmp .lt (i_loc 1) (i_fld 1 2 (r_loc 0))) (s_seq (s_seq (s_ist 2 (i_ald (r_fld 1 1 (r_loc 0)) (i_loc 1)))
 (s_seq (s_ist 3 (e_cond (c_icmp .eq (i_loc 2) (i_const 41)) (i_const 1) (e_cS Value.int 130 (aI1 (i_loc 2) a_nil))))
 (s_seq (s_if (c_and (c_if .gt (i_loc 3)) (c_not (c_b (e_cV Value.int 132 (r_loc 0) (aI1 (i_loc 3) a_nil))))) (s_retZ (i_const 0)))
 (s_ite (c_icmp .eq (i_loc 2) (i_const 41)) (s_cV 136 (r_loc 0) a_nil) (s_ite (c_b (e_cS Value.int 129 (aI1 (i_loc 2) a_nil))) (s_seq (s_cV 137 (r_loc 0) a_nil)
 (s_if (c_and (c_icmp .ne (i_loc 2) (i_const 48)) (c_if .lt (e_cV Value.int 11 (r_fld 1 0 (r_loc 0)) (aI1 (i_sub (i_loc 2) (i_const 97)) (aI1 (i_const 1) a_nil))))) (s_retZ (i_const 0)))) (s_cV 138 (r_loc 0) (aI1 (i_loc 2) a_nil)))))))
 (s_inc 1 1))))
 (s_retZ (e_cV Value.int 132 (r_loc 0) (aI1 (i_const 1) a_nil))))))
theorem O_eL_evaluate : OKS M_eL_evaluate := OK_seq (OK_scV (OK_rfld (OK_rloc _)) OK_anil) (OK_seq (OK_putI (OK_rloc _) (OK_const _)) (OK_seq (OK_putI (OK_rloc _) (OK_const _)) (OK_seq (OK_seq (OK_ist (OK_const _)) (OK_whl (OK_icmp (OK_iloc _) (OK_ifld (OK_rloc _))) (OK_seq (OK_seq (OK_ist (OK_iald (OK_rfld (OK_rloc _)) (OK_iloc _))) (OK_seq (OK_ist (OK_econd (OK_icmp (OK_iloc _) (OK_const _)) (OK_const _) (OK_cS (OK_aI (OK_iloc _) OK_anil)))) (OK_seq (OK_sif (OK_cand (OK_if (OK_iloc _)) (OK_not (OK_if (OK_cV (OK_rloc _) (OK_aI (OK_iloc _) OK_anil))))) (OK_retZ (OK_const _))) (OK_ite (OK_icmp (OK_iloc _) (OK_const _)) (OK_scV (OK_rloc _) OK_anil) (OK_ite (OK_if (OK_cS (OK_aI (OK_iloc _) OK_anil))) (OK_seq (OK_scV (OK_rloc _) OK_anil) (OK_sif (OK_cand (OK_icmp (OK_iloc _) (OK_const _)) (OK_if (OK_cV (OK_rfld (OK_rloc _)) (OK_aI (OK_sub (OK_iloc _) (OK_const _)) (OK_aI (OK_const _) OK_anil))))) (OK_retZ (OK_const _)))) (OK_scV (OK_rloc _) (OK_aI (OK_iloc _) OK_anil))))))) OK_inc))) (OK_retZ (OK_cV (OK_rloc _) (OK_aI (OK_const _) OK_anil))))))
theorem K_eL_evaluate : M_eL_evaluate.1 (1, (kini 1), prog_3_method_7_code, some (.boolean), 4) 0 = some (127, false, []) := by decide +kernel
theorem C_eL_evaluate {d mc ms : Nat} {av : List Value} {h : FH} {Rr : Option Value → FH → Prop} (hl : (lg_sl av).length ≤ 4) (body : ∀ g : GE, g.1 = d → M_eL_evaluate.2 g (fun _ _ _ => False) Rr (eent 4 av) h (mc, ms)) : Call 131 d av h mc ms Rr := call_of2 (k := 131) (own := 1) ((mtb_3 (i := 11) (by decide)).trans rfl) (by decide +kernel) rfl O_eL_evaluate K_eL_evaluate hl body
/-- method 132: EventStructures$Language.applyWaiting(I)Z -/
def M_eL_applyWaiting : ST := s_seq (s_whl (c_and (c_and (c_if .gt (i_fld 1 6 (r_loc 0))) (c_icmp .gt (i_fld 1 4 (r_loc 0)) (i_const 1))) (c_icmp .ge (e_cS Value.int 130 (aI1 (i_ald (r_fld 1 5 (r_loc 0)) (i_sub (i_fld 1 6 (r_loc 0)) (i_const 1))) a_nil)) (i_loc 1))) (s_seq (s_opf 1 6 .isub (fun x y => x - y) (r_loc 0) (i_const 1))
 (s_seq (s_opf 1 4 .isub (fun x y => x - y) (r_loc 0) (i_const 1))
 (s_seq (s_ist 2 (i_ald (r_fld 1 3 (r_loc 0)) (i_sub (i_fld 1 4 (r_loc 0)) (i_const 1))))
 (s_seq (s_ist 3 (i_ald (r_fld 1 3 (r_loc 0)) (i_fld 1 4 (r_loc 0))))
 (s_ite (c_icmp .eq (i_ald (r_fld 1 5 (r_loc 0)) (i_fld 1 6 (r_loc 0))) (i_const 43)) (s_cV 133 (r_loc 0) (aI1 (i_loc 2) (aI1 (i_loc 3) a_nil))) (s_if (c_and (c_icmp .eq (i_ald (r_fld 1 5 (r_loc 0)) (i_fld 1 6 (r_loc 0))) (i_const 59)) (c_not (c_b (e_cV Value.int 134 (r_loc 0) (aI1 (i_loc 2) (aI1 (i_loc 3) a_nil)))))) (s_retZ (i_const 0)))))))))
 (s_retZ (i_const 1))
theorem O_eL_applyWaiting : OKS M_eL_applyWaiting := OK_seq (OK_whl (OK_cand (OK_cand (OK_if (OK_ifld (OK_rloc _))) (OK_icmp (OK_ifld (OK_rloc _)) (OK_const _))) (OK_icmp (OK_cS (OK_aI (OK_iald (OK_rfld (OK_rloc _)) (OK_sub (OK_ifld (OK_rloc _)) (OK_const _))) OK_anil)) (OK_iloc _))) (OK_seq (OK_opf (by simp) (fun K pc env st h bd x y X hd k => J_isub X hd k) (OK_rloc _) (OK_const _)) (OK_seq (OK_opf (by simp) (fun K pc env st h bd x y X hd k => J_isub X hd k) (OK_rloc _) (OK_const _)) (OK_seq (OK_ist (OK_iald (OK_rfld (OK_rloc _)) (OK_sub (OK_ifld (OK_rloc _)) (OK_const _)))) (OK_seq (OK_ist (OK_iald (OK_rfld (OK_rloc _)) (OK_ifld (OK_rloc _)))) (OK_ite (OK_icmp (OK_iald (OK_rfld (OK_rloc _)) (OK_ifld (OK_rloc _))) (OK_const _)) (OK_scV (OK_rloc _) (OK_aI (OK_iloc _) (OK_aI (OK_iloc _) OK_anil))) (OK_sif (OK_cand (OK_icmp (OK_iald (OK_rfld (OK_rloc _)) (OK_ifld (OK_rloc _))) (OK_const _)) (OK_not (OK_if (OK_cV (OK_rloc _) (OK_aI (OK_iloc _) (OK_aI (OK_iloc _) OK_anil)))))) (OK_retZ (OK_const _))))))))) (OK_retZ (OK_const _))
theorem K_eL_applyWaiting : M_eL_applyWaiting.1 (1, (kini 1), prog_3_method_11_code, some (.boolean), 4) 0 = some (128, false, []) := by decide +kernel
theorem C_eL_applyWaiting {d mc ms : Nat} {av : List Value} {h : FH} {Rr : Option Value → FH → Prop} (hl : (lg_sl av).length ≤ 4) (body : ∀ g : GE, g.1 = d → M_eL_applyWaiting.2 g (fun _ _ _ => False) Rr (eent 4 av) h (mc, ms)) : Call 132 d av h mc ms Rr := call_of2 (k := 132) (own := 1) ((mtb_3 (i := 12) (by decide)).trans rfl) (by decide +kernel) rfl O_eL_applyWaiting K_eL_applyWaiting hl body
/-- method 133: EventStructures$Language.exclude(II)V -/
def M_eL_exclude : ST := s_seq (s_seq (s_ist 3 (i_loc 1))
 (s_whl (c_icmp .lt (i_loc 3) (i_loc 2)) (s_seq (s_seq (s_ist 4 (i_loc 2))
 (s_whl (c_icmp .lt (i_loc 4) (i_fld 4 5 (r_fld 1 0 (r_loc 0)))) (s_seq (s_seq (s_opaI .ior (fun x y => x ||| y) (r_fld 4 3 (r_fld 1 0 (r_loc 0))) (i_loc 3) (i_shl (i_const 1) (i_loc 4)))
 (s_opaI .ior (fun x y => x ||| y) (r_fld 4 3 (r_fld 1 0 (r_loc 0))) (i_loc 4) (i_shl (i_const 1) (i_loc 3))))
 (s_inc 4 1))))
 (s_inc 3 1))))
 s_ret
theorem O_eL_exclude : OKS M_eL_exclude := OK_seq (OK_seq (OK_ist (OK_iloc _)) (OK_whl (OK_icmp (OK_iloc _) (OK_iloc _)) (OK_seq (OK_seq (OK_ist (OK_iloc _)) (OK_whl (OK_icmp (OK_iloc _) (OK_ifld (OK_rfld (OK_rloc _)))) (OK_seq (OK_seq (OK_opaI (by simp) (fun K pc env st h bd x y X hd k => J_ior X hd k) (OK_rfld (OK_rfld (OK_rloc _))) (OK_iloc _) (OK_shl (OK_const _) (OK_iloc _))) (OK_opaI (by simp) (fun K pc env st h bd x y X hd k => J_ior X hd k) (OK_rfld (OK_rfld (OK_rloc _))) (OK_iloc _) (OK_shl (OK_const _) (OK_iloc _)))) OK_inc))) OK_inc))) OK_ret
theorem K_eL_exclude : M_eL_exclude.1 (1, (kini 1), prog_3_method_12_code, none, 5) 0 = some (67, false, []) := by decide +kernel
theorem C_eL_exclude {d mc ms : Nat} {av : List Value} {h : FH} {Rr : Option Value → FH → Prop} (hl : (lg_sl av).length ≤ 5) (body : ∀ g : GE, g.1 = d → M_eL_exclude.2 g (fun _ _ _ => False) Rr (eent 5 av) h (mc, ms)) : Call 133 d av h mc ms Rr := call_of2 (k := 133) (own := 1) ((mtb_3 (i := 13) (by decide)).trans rfl) (by decide +kernel) rfl O_eL_exclude K_eL_exclude hl body
/-- method 134: EventStructures$Language.continueWithCopies(II)Z -/
def M_eL_continueWithCopies : ST := s_seq (s_ist 3 (i_fld 4 5 (r_fld 1 0 (r_loc 0))))
 (s_seq (s_ist 4 (i_sub (i_shl (i_const 1) (i_loc 2)) (i_shl (i_const 1) (i_loc 1))))
 (s_seq (s_ist 5 (i_sub (i_shl (i_const 1) (i_loc 3)) (i_shl (i_const 1) (i_loc 2))))
 (s_seq (s_ist 6 (i_const 0))
 (s_seq (s_seq (s_ist 7 (i_const 0))
 (s_whl (c_icmp .le (i_loc 7) (i_loc 4)) (s_seq (s_if (c_b (e_cV Value.int 135 (r_loc 0) (aI1 (i_loc 7) (aI1 (i_loc 1) (aI1 (i_loc 2) a_nil))))) (s_seq (s_seq (s_ist 8 (i_loc 2))
 (s_whl (c_icmp .lt (i_loc 8) (i_loc 3)) (s_seq (s_seq (s_if (c_and (c_if .gt (i_loc 6)) (c_if .lt (e_cV Value.int 11 (r_fld 1 0 (r_loc 0)) (aI1 (i_ald (r_fld 4 0 (r_fld 1 0 (r_loc 0))) (i_loc 8)) (aI1 (i_ald (r_fld 4 1 (r_fld 1 0 (r_loc 0))) (i_loc 8)) a_nil))))) (s_retZ (i_const 0)))
 (s_seq (s_iast (r_fld 4 2 (r_fld 1 0 (r_loc 0))) (i_add (i_loc 8) (i_loc 6)) (i_or (i_shl (i_and (i_ald (r_fld 4 2 (r_fld 1 0 (r_loc 0))) (i_loc 8)) (i_loc 5)) (i_loc 6)) (i_loc 7)))
 (s_iast (r_fld 4 3 (r_fld 1 0 (r_loc 0))) (i_add (i_loc 8) (i_loc 6)) (i_shl (i_and (i_ald (r_fld 4 3 (r_fld 1 0 (r_loc 0))) (i_loc 8)) (i_loc 5)) (i_loc 6)))))
 (s_inc 8 1))))
 (s_ist 6 (i_sub (i_fld 4 5 (r_fld 1 0 (r_loc 0))) (i_loc 2)))))
 (s_ist 7 (i_add (i_loc 7) (i_shl (i_const 1) (i_loc 1)))))))
 (s_retZ (i_const 1))))))
theorem O_eL_continueWithCopies : OKS M_eL_continueWithCopies := OK_seq (OK_ist (OK_ifld (OK_rfld (OK_rloc _)))) (OK_seq (OK_ist (OK_sub (OK_shl (OK_const _) (OK_iloc _)) (OK_shl (OK_const _) (OK_iloc _)))) (OK_seq (OK_ist (OK_sub (OK_shl (OK_const _) (OK_iloc _)) (OK_shl (OK_const _) (OK_iloc _)))) (OK_seq (OK_ist (OK_const _)) (OK_seq (OK_seq (OK_ist (OK_const _)) (OK_whl (OK_icmp (OK_iloc _) (OK_iloc _)) (OK_seq (OK_sif (OK_if (OK_cV (OK_rloc _) (OK_aI (OK_iloc _) (OK_aI (OK_iloc _) (OK_aI (OK_iloc _) OK_anil))))) (OK_seq (OK_seq (OK_ist (OK_iloc _)) (OK_whl (OK_icmp (OK_iloc _) (OK_iloc _)) (OK_seq (OK_seq (OK_sif (OK_cand (OK_if (OK_iloc _)) (OK_if (OK_cV (OK_rfld (OK_rloc _)) (OK_aI (OK_iald (OK_rfld (OK_rfld (OK_rloc _))) (OK_iloc _)) (OK_aI (OK_iald (OK_rfld (OK_rfld (OK_rloc _))) (OK_iloc _)) OK_anil))))) (OK_retZ (OK_const _))) (OK_seq (OK_siast (OK_rfld (OK_rfld (OK_rloc _))) (OK_add (OK_iloc _) (OK_iloc _)) (OK_or (OK_shl (OK_and (OK_iald (OK_rfld (OK_rfld (OK_rloc _))) (OK_iloc _)) (OK_iloc _)) (OK_iloc _)) (OK_iloc _))) (OK_siast (OK_rfld (OK_rfld (OK_rloc _))) (OK_add (OK_iloc _) (OK_iloc _)) (OK_shl (OK_and (OK_iald (OK_rfld (OK_rfld (OK_rloc _))) (OK_iloc _)) (OK_iloc _)) (OK_iloc _))))) OK_inc))) (OK_ist (OK_sub (OK_ifld (OK_rfld (OK_rloc _))) (OK_iloc _))))) (OK_ist (OK_add (OK_iloc _) (OK_shl (OK_const _) (OK_iloc _))))))) (OK_retZ (OK_const _))))))
theorem K_eL_continueWithCopies : M_eL_continueWithCopies.1 (1, (kini 1), prog_3_method_13_code, some (.boolean), 9) 0 = some (187, false, []) := by decide +kernel
theorem C_eL_continueWithCopies {d mc ms : Nat} {av : List Value} {h : FH} {Rr : Option Value → FH → Prop} (hl : (lg_sl av).length ≤ 9) (body : ∀ g : GE, g.1 = d → M_eL_continueWithCopies.2 g (fun _ _ _ => False) Rr (eent 9 av) h (mc, ms)) : Call 134 d av h mc ms Rr := call_of2 (k := 134) (own := 1) ((mtb_3 (i := 14) (by decide)).trans rfl) (by decide +kernel) rfl O_eL_continueWithCopies K_eL_continueWithCopies hl body
/-- method 135: EventStructures$Language.isMaximal(III)Z -/
def M_eL_isMaximal : ST := s_seq (s_if (c_not (c_b (e_cV Value.int 34 (r_fld 1 0 (r_loc 0)) (aI1 (i_loc 1) a_nil)))) (s_retZ (i_const 0)))
 (s_seq (s_seq (s_ist 4 (i_loc 2))
 (s_whl (c_icmp .lt (i_loc 4) (i_loc 3)) (s_seq (s_if (c_and (c_not (c_b (e_cS Value.int 19 (aI1 (i_loc 1) (aI1 (i_loc 4) a_nil))))) (c_b (e_cV Value.int 34 (r_fld 1 0 (r_loc 0)) (aI1 (i_or (i_loc 1) (i_shl (i_const 1) (i_loc 4))) a_nil)))) (s_retZ (i_const 0)))
 (s_inc 4 1))))
 (s_retZ (i_const 1)))
theorem O_eL_isMaximal : OKS M_eL_isMaximal := OK_seq (OK_sif (OK_not (OK_if (OK_cV (OK_rfld (OK_rloc _)) (OK_aI (OK_iloc _) OK_anil)))) (OK_retZ (OK_const _))) (OK_seq (OK_seq (OK_ist (OK_iloc _)) (OK_whl (OK_icmp (OK_iloc _) (OK_iloc _)) (OK_seq (OK_sif (OK_cand (OK_not (OK_if (OK_cS (OK_aI (OK_iloc _) (OK_aI (OK_iloc _) OK_anil))))) (OK_if (OK_cV (OK_rfld (OK_rloc _)) (OK_aI (OK_or (OK_iloc _) (OK_shl (OK_const _) (OK_iloc _))) OK_anil)))) (OK_retZ (OK_const _))) OK_inc))) (OK_retZ (OK_const _)))
theorem K_eL_isMaximal : M_eL_isMaximal.1 (1, (kini 1), prog_3_method_14_code, some (.boolean), 5) 0 = some (57, false, []) := by decide +kernel
theorem C_eL_isMaximal {d mc ms : Nat} {av : List Value} {h : FH} {Rr : Option Value → FH → Prop} (hl : (lg_sl av).length ≤ 5) (body : ∀ g : GE, g.1 = d → M_eL_isMaximal.2 g (fun _ _ _ => False) Rr (eent 5 av) h (mc, ms)) : Call 135 d av h mc ms Rr := call_of2 (k := 135) (own := 1) ((mtb_3 (i := 15) (by decide)).trans rfl) (by decide +kernel) rfl O_eL_isMaximal K_eL_isMaximal hl body
/-- method 136: EventStructures$Language.dropParenthesis()V -/
def M_eL_dropParenthesis : ST := s_seq (s_if (c_if .gt (i_fld 1 6 (r_loc 0))) (s_opf 1 6 .isub (fun x y => x - y) (r_loc 0) (i_const 1)))
 s_ret
theorem O_eL_dropParenthesis : OKS M_eL_dropParenthesis := OK_seq (OK_sif (OK_if (OK_ifld (OK_rloc _))) (OK_opf (by simp) (fun K pc env st h bd x y X hd k => J_isub X hd k) (OK_rloc _) (OK_const _))) OK_ret
theorem K_eL_dropParenthesis : M_eL_dropParenthesis.1 (1, (kini 1), prog_3_method_8_code, none, 1) 0 = some (18, false, []) := by decide +kernel
theorem C_eL_dropParenthesis {d mc ms : Nat} {av : List Value} {h : FH} {Rr : Option Value → FH → Prop} (hl : (lg_sl av).length ≤ 1) (body : ∀ g : GE, g.1 = d → M_eL_dropParenthesis.2 g (fun _ _ _ => False) Rr (eent 1 av) h (mc, ms)) : Call 136 d av h mc ms Rr := call_of2 (k := 136) (own := 1) ((mtb_3 (i := 16) (by decide)).trans rfl) (by decide +kernel) rfl O_eL_dropParenthesis K_eL_dropParenthesis hl body
/-- method 137: EventStructures$Language.openOperand()V -/
def M_eL_openOperand : ST := s_seq (s_if (c_icmp .lt (i_fld 1 4 (r_loc 0)) (i_const 40)) (s_seq (s_iast (r_fld 1 3 (r_loc 0)) (i_fld 1 4 (r_loc 0)) (i_fld 4 5 (r_fld 1 0 (r_loc 0))))
 (s_opf 1 4 .iadd (fun x y => x + y) (r_loc 0) (i_const 1))))
 s_ret
theorem O_eL_openOperand : OKS M_eL_openOperand := OK_seq (OK_sif (OK_icmp (OK_ifld (OK_rloc _)) (OK_const _)) (OK_seq (OK_siast (OK_rfld (OK_rloc _)) (OK_ifld (OK_rloc _)) (OK_ifld (OK_rfld (OK_rloc _)))) (OK_opf (by simp) (fun K pc env st h bd x y X hd k => J_iadd X hd k) (OK_rloc _) (OK_const _)))) OK_ret
theorem K_eL_openOperand : M_eL_openOperand.1 (1, (kini 1), prog_3_method_10_code, none, 1) 0 = some (36, false, []) := by decide +kernel
theorem C_eL_openOperand {d mc ms : Nat} {av : List Value} {h : FH} {Rr : Option Value → FH → Prop} (hl : (lg_sl av).length ≤ 1) (body : ∀ g : GE, g.1 = d → M_eL_openOperand.2 g (fun _ _ _ => False) Rr (eent 1 av) h (mc, ms)) : Call 137 d av h mc ms Rr := call_of2 (k := 137) (own := 1) ((mtb_3 (i := 17) (by decide)).trans rfl) (by decide +kernel) rfl O_eL_openOperand K_eL_openOperand hl body
/-- method 138: EventStructures$Language.keepWaiting(I)V -/
def M_eL_keepWaiting : ST := s_seq (s_if (c_icmp .lt (i_fld 1 6 (r_loc 0)) (i_const 40)) (s_seq (s_iast (r_fld 1 5 (r_loc 0)) (i_fld 1 6 (r_loc 0)) (i_loc 1))
 (s_opf 1 6 .iadd (fun x y => x + y) (r_loc 0) (i_const 1))))
 s_ret
theorem O_eL_keepWaiting : OKS M_eL_keepWaiting := OK_seq (OK_sif (OK_icmp (OK_ifld (OK_rloc _)) (OK_const _)) (OK_seq (OK_siast (OK_rfld (OK_rloc _)) (OK_ifld (OK_rloc _)) (OK_iloc _)) (OK_opf (by simp) (fun K pc env st h bd x y X hd k => J_iadd X hd k) (OK_rloc _) (OK_const _)))) OK_ret
theorem K_eL_keepWaiting : M_eL_keepWaiting.1 (1, (kini 1), prog_3_method_9_code, none, 2) 0 = some (30, false, []) := by decide +kernel
theorem C_eL_keepWaiting {d mc ms : Nat} {av : List Value} {h : FH} {Rr : Option Value → FH → Prop} (hl : (lg_sl av).length ≤ 2) (body : ∀ g : GE, g.1 = d → M_eL_keepWaiting.2 g (fun _ _ _ => False) Rr (eent 2 av) h (mc, ms)) : Call 138 d av h mc ms Rr := call_of2 (k := 138) (own := 1) ((mtb_3 (i := 18) (by decide)).trans rfl) (by decide +kernel) rfl O_eL_keepWaiting K_eL_keepWaiting hl body
/-- method 139: EventStructures$Language.empty()V -/
def M_eL_empty : ST := s_seq (s_putI 1 2 (r_loc 0) (i_const 0))
 s_ret
theorem O_eL_empty : OKS M_eL_empty := OK_seq (OK_putI (OK_rloc _) (OK_const _)) OK_ret
theorem K_eL_empty : M_eL_empty.1 (1, (kini 1), prog_3_method_3_code, none, 1) 0 = some (6, false, []) := by decide +kernel
theorem C_eL_empty {d mc ms : Nat} {av : List Value} {h : FH} {Rr : Option Value → FH → Prop} (hl : (lg_sl av).length ≤ 1) (body : ∀ g : GE, g.1 = d → M_eL_empty.2 g (fun _ _ _ => False) Rr (eent 1 av) h (mc, ms)) : Call 139 d av h mc ms Rr := call_of2 (k := 139) (own := 1) ((mtb_3 (i := 19) (by decide)).trans rfl) (by decide +kernel) rfl O_eL_empty K_eL_empty hl body
/-- method 142: EventStructures$Net.become(LEventStructures$Net;)V -/
def M_eN_become : ST := s_seq (s_putI 2 0 (r_loc 0) (i_fld 2 0 (r_loc 1)))
 (s_seq (s_putI 2 1 (r_loc 0) (i_fld 2 1 (r_loc 1)))
 (s_seq (s_putI 2 2 (r_loc 0) (i_fld 2 2 (r_loc 1)))
 (s_seq (s_seq (s_ist 2 (i_const 0))
 (s_whl (c_icmp .lt (i_loc 2) (i_const 6)) (s_seq (s_seq (s_iast (r_fld 2 3 (r_loc 0)) (i_loc 2) (i_ald (r_fld 2 3 (r_loc 1)) (i_loc 2)))
 (s_seq (s_iast (r_fld 2 4 (r_loc 0)) (i_loc 2) (i_ald (r_fld 2 4 (r_loc 1)) (i_loc 2)))
 (s_iast (r_fld 2 5 (r_loc 0)) (i_loc 2) (i_ald (r_fld 2 5 (r_loc 1)) (i_loc 2)))))
 (s_inc 2 1))))
 s_ret)))
theorem O_eN_become : OKS M_eN_become := OK_seq (OK_putI (OK_rloc _) (OK_ifld (OK_rloc _))) (OK_seq (OK_putI (OK_rloc _) (OK_ifld (OK_rloc _))) (OK_seq (OK_putI (OK_rloc _) (OK_ifld (OK_rloc _))) (OK_seq (OK_seq (OK_ist (OK_const _)) (OK_whl (OK_icmp (OK_iloc _) (OK_const _)) (OK_seq (OK_seq (OK_siast (OK_rfld (OK_rloc _)) (OK_iloc _) (OK_iald (OK_rfld (OK_rloc _)) (OK_iloc _))) (OK_seq (OK_siast (OK_rfld (OK_rloc _)) (OK_iloc _) (OK_iald (OK_rfld (OK_rloc _)) (OK_iloc _))) (OK_siast (OK_rfld (OK_rloc _)) (OK_iloc _) (OK_iald (OK_rfld (OK_rloc _)) (OK_iloc _))))) OK_inc))) OK_ret)))
theorem K_eN_become : M_eN_become.1 (2, (kini 1), prog_4_method_6_code, none, 3) 0 = some (75, false, []) := by decide +kernel
theorem C_eN_become {d mc ms : Nat} {av : List Value} {h : FH} {Rr : Option Value → FH → Prop} (hl : (lg_sl av).length ≤ 3) (body : ∀ g : GE, g.1 = d → M_eN_become.2 g (fun _ _ _ => False) Rr (eent 3 av) h (mc, ms)) : Call 142 d av h mc ms Rr := call_of2 (k := 142) (own := 2) ((mtb_3 (i := 22) (by decide)).trans rfl) (by decide +kernel) rfl O_eN_become K_eN_become hl body
