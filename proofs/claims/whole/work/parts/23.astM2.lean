/-! the methods, as statements (by j2l.py out of the sources); K_: their bytecode is that statement's; C_: their contract out of what the statement does -/
/-- method 56: java/lang/Integer.bitCount(I)I -/
def M_jI_bitCount : ST := s_seq (s_ist 0 (i_sub (i_loc 0) (i_and (i_ushr (i_loc 0) (i_const 1)) (i_const 1431655765))))
 (s_seq (s_ist 0 (i_add (i_and (i_loc 0) (i_const 858993459)) (i_and (i_ushr (i_loc 0) (i_const 2)) (i_const 858993459))))
 (s_seq (s_ist 0 (i_and (i_add (i_loc 0) (i_ushr (i_loc 0) (i_const 4))) (i_const 252645135)))
 (s_seq (s_ist 0 (i_add (i_loc 0) (i_ushr (i_loc 0) (i_const 8))))
 (s_seq (s_ist 0 (i_add (i_loc 0) (i_ushr (i_loc 0) (i_const 16))))
 (s_retI (i_and (i_loc 0) (i_const 63)))))))
theorem O_jI_bitCount : OKS M_jI_bitCount := OK_seq (OK_ist (OK_sub (OK_iloc _) (OK_and (OK_ushr (OK_iloc _) (OK_const _)) (OK_const _)))) (OK_seq (OK_ist (OK_add (OK_and (OK_iloc _) (OK_const _)) (OK_and (OK_ushr (OK_iloc _) (OK_const _)) (OK_const _)))) (OK_seq (OK_ist (OK_and (OK_add (OK_iloc _) (OK_ushr (OK_iloc _) (OK_const _))) (OK_const _))) (OK_seq (OK_ist (OK_add (OK_iloc _) (OK_ushr (OK_iloc _) (OK_const _)))) (OK_seq (OK_ist (OK_add (OK_iloc _) (OK_ushr (OK_iloc _) (OK_const _)))) (OK_retI (OK_and (OK_iloc _) (OK_const _)))))))
theorem K_jI_bitCount : M_jI_bitCount.1 (12, (kini 0), prog_13_method_49_code, some (.int), 1) 0 = some (53, false, []) := by decide +kernel
theorem C_jI_bitCount {d mc ms : Nat} {av : List Value} {h : FH} {Rr : Option Value → FH → Prop} (hl : (lg_sl av).length ≤ 1) (body : ∀ g : GE, g.1 = d → M_jI_bitCount.2 g (fun _ _ _ => False) Rr (eent 1 av) h (mc, ms)) : Call 56 d av h mc ms Rr := call_of2 (k := 56) (own := 12) ((mtb_1 (i := 16) (by decide)).trans rfl) (by decide +kernel) rfl O_jI_bitCount K_jI_bitCount hl body
/-- method 64: java/util/Arrays.fill([JJ)V -/
def M_jA_fillL : ST := s_seq (s_seq (s_ist 3 (i_const 0))
 (s_seq (s_ist 4 (i_len (r_loc 0)))
 (s_whl (c_icmp .lt (i_loc 3) (i_loc 4)) (s_seq (s_last (r_loc 0) (i_loc 3) (l_loc 1))
 (s_inc 3 1)))))
 s_ret
theorem O_jA_fillL : OKS M_jA_fillL := OK_seq (OK_seq (OK_ist (OK_const _)) (OK_seq (OK_ist (OK_len (OK_rloc _))) (OK_whl (OK_icmp (OK_iloc _) (OK_iloc _)) (OK_seq (OK_slast (OK_rloc _) (OK_iloc _) (OK_lloc _)) OK_inc)))) OK_ret
theorem K_jA_fillL : M_jA_fillL.1 (14, (kini 0), prog_16_method_101_code, none, 5) 0 = some (23, false, []) := by decide +kernel
theorem C_jA_fillL {d mc ms : Nat} {av : List Value} {h : FH} {Rr : Option Value → FH → Prop} (hl : (lg_sl av).length ≤ 5) (body : ∀ g : GE, g.1 = d → M_jA_fillL.2 g (fun _ _ _ => False) Rr (eent 5 av) h (mc, ms)) : Call 64 d av h mc ms Rr := call_of2 (k := 64) (own := 14) ((mtb_1 (i := 24) (by decide)).trans rfl) (by decide +kernel) rfl O_jA_fillL K_jA_fillL hl body
/-- method 79: java/util/Arrays.fill([II)V -/
def M_jA_fillI : ST := s_seq (s_seq (s_ist 2 (i_const 0))
 (s_seq (s_ist 3 (i_len (r_loc 0)))
 (s_whl (c_icmp .lt (i_loc 2) (i_loc 3)) (s_seq (s_iast (r_loc 0) (i_loc 2) (i_loc 1))
 (s_inc 2 1)))))
 s_ret
theorem O_jA_fillI : OKS M_jA_fillI := OK_seq (OK_seq (OK_ist (OK_const _)) (OK_seq (OK_ist (OK_len (OK_rloc _))) (OK_whl (OK_icmp (OK_iloc _) (OK_iloc _)) (OK_seq (OK_siast (OK_rloc _) (OK_iloc _) (OK_iloc _)) OK_inc)))) OK_ret
theorem K_jA_fillI : M_jA_fillI.1 (14, (kini 0), prog_16_method_103_code, none, 4) 0 = some (21, false, []) := by decide +kernel
theorem C_jA_fillI {d mc ms : Nat} {av : List Value} {h : FH} {Rr : Option Value → FH → Prop} (hl : (lg_sl av).length ≤ 4) (body : ∀ g : GE, g.1 = d → M_jA_fillI.2 g (fun _ _ _ => False) Rr (eent 4 av) h (mc, ms)) : Call 79 d av h mc ms Rr := call_of2 (k := 79) (own := 14) ((mtb_1 (i := 39) (by decide)).trans rfl) (by decide +kernel) rfl O_jA_fillI K_jA_fillI hl body
/-- method 145: EventStructuresModel$Structure.<init>()V -/
def M_mS_init : ST := s_seq s_sup
 (s_seq (s_putR 9 1 (r_loc 0) (r_newa .int (i_const 8)))
 (s_seq (s_putR 9 2 (r_loc 0) (r_newa .int (i_const 8)))
 (s_seq (s_putR 9 3 (r_loc 0) (r_newa .int (i_const 8)))
 (s_seq (s_putR 9 4 (r_loc 0) (r_newa .int (i_const 8)))
 (s_seq (s_putR 9 6 (r_loc 0) (r_newa .int (i_const 8)))
 s_ret)))))
theorem O_mS_init : OKS M_mS_init := OK_seq OK_sup (OK_seq (OK_putR (OK_rloc _) (OK_newa (OK_const _))) (OK_seq (OK_putR (OK_rloc _) (OK_newa (OK_const _))) (OK_seq (OK_putR (OK_rloc _) (OK_newa (OK_const _))) (OK_seq (OK_putR (OK_rloc _) (OK_newa (OK_const _))) (OK_seq (OK_putR (OK_rloc _) (OK_newa (OK_const _))) OK_ret)))))
theorem K_mS_init : M_mS_init.1 (9, (kini 2), prog_12_method_1_code, none, 1) 0 = some (45, false, []) := by decide +kernel
theorem C_mS_init {d mc ms : Nat} {av : List Value} {h : FH} {Rr : Option Value → FH → Prop} (hl : (lg_sl av).length ≤ 1) (body : ∀ g : GE, g.1 = d → M_mS_init.2 g (fun _ _ _ => False) Rr (eent 1 av) h (mc, ms)) : Call 145 d av h mc ms Rr := call_of2 (k := 145) (own := 9) ((mtb_3 (i := 25) (by decide)).trans rfl) (by decide +kernel) rfl O_mS_init K_mS_init hl body
/-- method 146: EventStructuresModel$Layer.<init>()V -/
def M_mL_init : ST := s_seq s_sup
 (s_seq (s_putR 8 0 (r_loc 0) (r_newa .long (i_const 256)))
 (s_seq (s_putR 8 1 (r_loc 0) (r_newa .int (i_const 256)))
 (s_seq (s_putR 8 2 (r_loc 0) (r_newa .int (i_const 32)))
 s_ret)))
theorem O_mL_init : OKS M_mL_init := OK_seq OK_sup (OK_seq (OK_putR (OK_rloc _) (OK_newa (OK_const _))) (OK_seq (OK_putR (OK_rloc _) (OK_newa (OK_const _))) (OK_seq (OK_putR (OK_rloc _) (OK_newa (OK_const _))) OK_ret)))
theorem K_mL_init : M_mL_init.1 (8, (kini 2), prog_11_method_1_code, none, 1) 0 = some (31, false, []) := by decide +kernel
theorem C_mL_init {d mc ms : Nat} {av : List Value} {h : FH} {Rr : Option Value → FH → Prop} (hl : (lg_sl av).length ≤ 1) (body : ∀ g : GE, g.1 = d → M_mL_init.2 g (fun _ _ _ => False) Rr (eent 1 av) h (mc, ms)) : Call 146 d av h mc ms Rr := call_of2 (k := 146) (own := 8) ((mtb_3 (i := 26) (by decide)).trans rfl) (by decide +kernel) rfl O_mL_init K_mL_init hl body
/-- method 151: EventStructuresModel$Structure.add(III)V -/
def M_mS_add : ST := s_seq (s_iast (r_fld 9 1 (r_loc 0)) (i_fld 9 0 (r_loc 0)) (i_loc 1))
 (s_seq (s_iast (r_fld 9 2 (r_loc 0)) (i_fld 9 0 (r_loc 0)) (i_loc 2))
 (s_seq (s_iast (r_fld 9 3 (r_loc 0)) (i_fld 9 0 (r_loc 0)) (i_loc 3))
 (s_seq (s_iast (r_fld 9 4 (r_loc 0)) (i_fld 9 0 (r_loc 0)) (i_const 0))
 (s_seq (s_opf 9 0 .iadd (fun x y => x + y) (r_loc 0) (i_const 1))
 s_ret))))
theorem O_mS_add : OKS M_mS_add := OK_seq (OK_siast (OK_rfld (OK_rloc _)) (OK_ifld (OK_rloc _)) (OK_iloc _)) (OK_seq (OK_siast (OK_rfld (OK_rloc _)) (OK_ifld (OK_rloc _)) (OK_iloc _)) (OK_seq (OK_siast (OK_rfld (OK_rloc _)) (OK_ifld (OK_rloc _)) (OK_iloc _)) (OK_seq (OK_siast (OK_rfld (OK_rloc _)) (OK_ifld (OK_rloc _)) (OK_const _)) (OK_seq (OK_opf (by simp) (fun K pc env st h bd x y X hd k => J_iadd X hd k) (OK_rloc _) (OK_const _)) OK_ret))))
theorem K_mS_add : M_mS_add.1 (9, (kini 1), prog_12_method_3_code, none, 4) 0 = some (51, false, []) := by decide +kernel
theorem C_mS_add {d mc ms : Nat} {av : List Value} {h : FH} {Rr : Option Value → FH → Prop} (hl : (lg_sl av).length ≤ 4) (body : ∀ g : GE, g.1 = d → M_mS_add.2 g (fun _ _ _ => False) Rr (eent 4 av) h (mc, ms)) : Call 151 d av h mc ms Rr := call_of2 (k := 151) (own := 9) ((mtb_3 (i := 31) (by decide)).trans rfl) (by decide +kernel) rfl O_mS_add K_mS_add hl body
/-- method 156: EventStructuresModel$Structure.isBelow(II)Z -/
def M_mS_isBelow : ST := s_retZ (e_cond (c_and (c_icmp .ne (i_loc 1) (i_loc 2)) (c_icmp .eq (i_and (i_shr (e_cV Value.int 157 (r_loc 0) (aI1 (i_loc 2) a_nil)) (i_loc 1)) (i_const 1)) (i_const 1))) (i_const 1) (i_const 0))
theorem O_mS_isBelow : OKS M_mS_isBelow := OK_retZ (OK_econd (OK_cand (OK_icmp (OK_iloc _) (OK_iloc _)) (OK_icmp (OK_and (OK_shr (OK_cV (OK_rloc _) (OK_aI (OK_iloc _) OK_anil)) (OK_iloc _)) (OK_const _)) (OK_const _))) (OK_const _) (OK_const _))
theorem K_mS_isBelow : M_mS_isBelow.1 (9, (kini 1), prog_12_method_7_code, some (.boolean), 3) 0 = some (24, false, []) := by decide +kernel
theorem C_mS_isBelow {d mc ms : Nat} {av : List Value} {h : FH} {Rr : Option Value → FH → Prop} (hl : (lg_sl av).length ≤ 3) (body : ∀ g : GE, g.1 = d → M_mS_isBelow.2 g (fun _ _ _ => False) Rr (eent 3 av) h (mc, ms)) : Call 156 d av h mc ms Rr := call_of2 (k := 156) (own := 9) ((mtb_3 (i := 36) (by decide)).trans rfl) (by decide +kernel) rfl O_mS_isBelow K_mS_isBelow hl body
/-- method 157: EventStructuresModel$Structure.history(I)I -/
def M_mS_history : ST := s_seq (s_ist 2 (i_shl (i_const 1) (i_loc 1)))
 (s_seq (s_ist 3 (i_const 0))
 (s_seq (s_whl (c_icmp .ne (i_loc 2) (i_loc 3)) (s_seq (s_ist 3 (i_loc 2))
 (s_seq (s_ist 4 (i_const 0))
 (s_whl (c_icmp .lt (i_loc 4) (i_fld 9 0 (r_loc 0))) (s_seq (s_if (c_icmp .eq (i_and (i_shr (i_loc 3) (i_loc 4)) (i_const 1)) (i_const 1)) (s_ist 2 (i_or (i_loc 2) (i_ald (r_fld 9 3 (r_loc 0)) (i_loc 4)))))
 (s_inc 4 1))))))
 (s_retI (i_loc 2))))
theorem O_mS_history : OKS M_mS_history := OK_seq (OK_ist (OK_shl (OK_const _) (OK_iloc _))) (OK_seq (OK_ist (OK_const _)) (OK_seq (OK_whl (OK_icmp (OK_iloc _) (OK_iloc _)) (OK_seq (OK_ist (OK_iloc _)) (OK_seq (OK_ist (OK_const _)) (OK_whl (OK_icmp (OK_iloc _) (OK_ifld (OK_rloc _))) (OK_seq (OK_sif (OK_icmp (OK_and (OK_shr (OK_iloc _) (OK_iloc _)) (OK_const _)) (OK_const _)) (OK_ist (OK_or (OK_iloc _) (OK_iald (OK_rfld (OK_rloc _)) (OK_iloc _))))) OK_inc))))) (OK_retI (OK_iloc _))))
theorem K_mS_history : M_mS_history.1 (9, (kini 1), prog_12_method_6_code, some (.int), 5) 0 = some (56, false, []) := by decide +kernel
theorem C_mS_history {d mc ms : Nat} {av : List Value} {h : FH} {Rr : Option Value → FH → Prop} (hl : (lg_sl av).length ≤ 5) (body : ∀ g : GE, g.1 = d → M_mS_history.2 g (fun _ _ _ => False) Rr (eent 5 av) h (mc, ms)) : Call 157 d av h mc ms Rr := call_of2 (k := 157) (own := 9) ((mtb_3 (i := 37) (by decide)).trans rfl) (by decide +kernel) rfl O_mS_history K_mS_history hl body
/-- method 159: EventStructuresModel$Structure.addConflict(II)V -/
def M_mS_addConflict : ST := s_seq (s_opaI .ior (fun x y => x ||| y) (r_fld 9 4 (r_loc 0)) (i_loc 1) (i_shl (i_const 1) (i_loc 2)))
 (s_seq (s_opaI .ior (fun x y => x ||| y) (r_fld 9 4 (r_loc 0)) (i_loc 2) (i_shl (i_const 1) (i_loc 1)))
 s_ret)
theorem O_mS_addConflict : OKS M_mS_addConflict := OK_seq (OK_opaI (by simp) (fun K pc env st h bd x y X hd k => J_ior X hd k) (OK_rfld (OK_rloc _)) (OK_iloc _) (OK_shl (OK_const _) (OK_iloc _))) (OK_seq (OK_opaI (by simp) (fun K pc env st h bd x y X hd k => J_ior X hd k) (OK_rfld (OK_rloc _)) (OK_iloc _) (OK_shl (OK_const _) (OK_iloc _))) OK_ret)
theorem K_mS_addConflict : M_mS_addConflict.1 (9, (kini 1), prog_12_method_4_code, none, 3) 0 = some (25, false, []) := by decide +kernel
theorem C_mS_addConflict {d mc ms : Nat} {av : List Value} {h : FH} {Rr : Option Value → FH → Prop} (hl : (lg_sl av).length ≤ 3) (body : ∀ g : GE, g.1 = d → M_mS_addConflict.2 g (fun _ _ _ => False) Rr (eent 3 av) h (mc, ms)) : Call 159 d av h mc ms Rr := call_of2 (k := 159) (own := 9) ((mtb_3 (i := 39) (by decide)).trans rfl) (by decide +kernel) rfl O_mS_addConflict K_mS_addConflict hl body
/-- method 163: EventStructuresModel$Structure.copyFrom(LEventStructuresModel$Structure;)V -/
def M_mS_copyFrom : ST := s_seq (s_putI 9 0 (r_loc 0) (i_fld 9 0 (r_loc 1)))
 (s_seq (s_copyI (r_fld 9 1 (r_loc 1)) (i_const 0) (r_fld 9 1 (r_loc 0)) (i_const 0) (i_const 8))
 (s_seq (s_copyI (r_fld 9 2 (r_loc 1)) (i_const 0) (r_fld 9 2 (r_loc 0)) (i_const 0) (i_const 8))
 (s_seq (s_copyI (r_fld 9 3 (r_loc 1)) (i_const 0) (r_fld 9 3 (r_loc 0)) (i_const 0) (i_const 8))
 (s_seq (s_copyI (r_fld 9 4 (r_loc 1)) (i_const 0) (r_fld 9 4 (r_loc 0)) (i_const 0) (i_const 8))
 s_ret))))
theorem O_mS_copyFrom : OKS M_mS_copyFrom := OK_seq (OK_putI (OK_rloc _) (OK_ifld (OK_rloc _))) (OK_seq (OK_copyI (OK_rfld (OK_rloc _)) (OK_const _) (OK_rfld (OK_rloc _)) (OK_const _) (OK_const _)) (OK_seq (OK_copyI (OK_rfld (OK_rloc _)) (OK_const _) (OK_rfld (OK_rloc _)) (OK_const _) (OK_const _)) (OK_seq (OK_copyI (OK_rfld (OK_rloc _)) (OK_const _) (OK_rfld (OK_rloc _)) (OK_const _) (OK_const _)) (OK_seq (OK_copyI (OK_rfld (OK_rloc _)) (OK_const _) (OK_rfld (OK_rloc _)) (OK_const _) (OK_const _)) OK_ret))))
theorem K_mS_copyFrom : M_mS_copyFrom.1 (9, (kini 1), prog_12_method_2_code, none, 2) 0 = some (69, false, []) := by decide +kernel
theorem C_mS_copyFrom {d mc ms : Nat} {av : List Value} {h : FH} {Rr : Option Value → FH → Prop} (hl : (lg_sl av).length ≤ 2) (body : ∀ g : GE, g.1 = d → M_mS_copyFrom.2 g (fun _ _ _ => False) Rr (eent 2 av) h (mc, ms)) : Call 163 d av h mc ms Rr := call_of2 (k := 163) (own := 9) ((mtb_4 (i := 3) (by decide)).trans rfl) (by decide +kernel) rfl O_mS_copyFrom K_mS_copyFrom hl body
/-- method 168: EventStructuresModel$Structure.inConflict(II)Z -/
def M_mS_inConflict : ST := s_seq (s_ist 3 (e_cV Value.int 157 (r_loc 0) (aI1 (i_loc 1) a_nil)))
 (s_seq (s_ist 4 (e_cV Value.int 157 (r_loc 0) (aI1 (i_loc 2) a_nil)))
 (s_seq (s_ist 5 (i_const 0))
 (s_seq (s_seq (s_ist 6 (i_const 0))
 (s_whl (c_icmp .lt (i_loc 6) (i_fld 9 0 (r_loc 0))) (s_seq (s_ist 5 (e_cond (c_or (c_b (i_loc 5)) (c_and (c_icmp .eq (i_and (i_shr (i_loc 3) (i_loc 6)) (i_const 1)) (i_const 1)) (c_if .ne (i_and (i_ald (r_fld 9 4 (r_loc 0)) (i_loc 6)) (i_loc 4))))) (i_const 1) (i_const 0)))
 (s_inc 6 1))))
 (s_retZ (i_loc 5)))))
theorem O_mS_inConflict : OKS M_mS_inConflict := OK_seq (OK_ist (OK_cV (OK_rloc _) (OK_aI (OK_iloc _) OK_anil))) (OK_seq (OK_ist (OK_cV (OK_rloc _) (OK_aI (OK_iloc _) OK_anil))) (OK_seq (OK_ist (OK_const _)) (OK_seq (OK_seq (OK_ist (OK_const _)) (OK_whl (OK_icmp (OK_iloc _) (OK_ifld (OK_rloc _))) (OK_seq (OK_ist (OK_econd (OK_cor (OK_if (OK_iloc _)) (OK_cand (OK_icmp (OK_and (OK_shr (OK_iloc _) (OK_iloc _)) (OK_const _)) (OK_const _)) (OK_if (OK_and (OK_iald (OK_rfld (OK_rloc _)) (OK_iloc _)) (OK_iloc _))))) (OK_const _) (OK_const _))) OK_inc))) (OK_retZ (OK_iloc _)))))
theorem K_mS_inConflict : M_mS_inConflict.1 (9, (kini 1), prog_12_method_8_code, some (.boolean), 7) 0 = some (72, false, []) := by decide +kernel
theorem C_mS_inConflict {d mc ms : Nat} {av : List Value} {h : FH} {Rr : Option Value → FH → Prop} (hl : (lg_sl av).length ≤ 7) (body : ∀ g : GE, g.1 = d → M_mS_inConflict.2 g (fun _ _ _ => False) Rr (eent 7 av) h (mc, ms)) : Call 168 d av h mc ms Rr := call_of2 (k := 168) (own := 9) ((mtb_4 (i := 8) (by decide)).trans rfl) (by decide +kernel) rfl O_mS_inConflict K_mS_inConflict hl body
/-- method 171: EventStructuresModel$Structure.areConcurrent(II)Z -/
def M_mS_areConcurrent : ST := s_retZ (e_cond (c_and (c_and (c_and (c_icmp .ne (i_loc 1) (i_loc 2)) (c_not (c_b (e_cV Value.int 156 (r_loc 0) (aI1 (i_loc 1) (aI1 (i_loc 2) a_nil)))))) (c_not (c_b (e_cV Value.int 156 (r_loc 0) (aI1 (i_loc 2) (aI1 (i_loc 1) a_nil)))))) (c_not (c_b (e_cV Value.int 168 (r_loc 0) (aI1 (i_loc 1) (aI1 (i_loc 2) a_nil)))))) (i_const 1) (i_const 0))
theorem O_mS_areConcurrent : OKS M_mS_areConcurrent := OK_retZ (OK_econd (OK_cand (OK_cand (OK_cand (OK_icmp (OK_iloc _) (OK_iloc _)) (OK_not (OK_if (OK_cV (OK_rloc _) (OK_aI (OK_iloc _) (OK_aI (OK_iloc _) OK_anil)))))) (OK_not (OK_if (OK_cV (OK_rloc _) (OK_aI (OK_iloc _) (OK_aI (OK_iloc _) OK_anil)))))) (OK_not (OK_if (OK_cV (OK_rloc _) (OK_aI (OK_iloc _) (OK_aI (OK_iloc _) OK_anil)))))) (OK_const _) (OK_const _))
theorem K_mS_areConcurrent : M_mS_areConcurrent.1 (9, (kini 1), prog_12_method_9_code, some (.boolean), 3) 0 = some (38, false, []) := by decide +kernel
theorem C_mS_areConcurrent {d mc ms : Nat} {av : List Value} {h : FH} {Rr : Option Value → FH → Prop} (hl : (lg_sl av).length ≤ 3) (body : ∀ g : GE, g.1 = d → M_mS_areConcurrent.2 g (fun _ _ _ => False) Rr (eent 3 av) h (mc, ms)) : Call 171 d av h mc ms Rr := call_of2 (k := 171) (own := 9) ((mtb_4 (i := 11) (by decide)).trans rfl) (by decide +kernel) rfl O_mS_areConcurrent K_mS_areConcurrent hl body
/-- method 174: EventStructuresModel$Structure.isConfiguration(I)Z -/
def M_mS_isConfiguration : ST := s_seq (s_if (c_if .ne (i_and (i_loc 1) (i_xor (e_cV Value.int 175 (r_loc 0) a_nil) (i_const (-1))))) (s_retZ (i_const 0)))
 (s_seq (s_seq (s_ist 2 (i_const 0))
 (s_whl (c_icmp .lt (i_loc 2) (i_fld 9 0 (r_loc 0))) (s_seq (s_if (c_and (c_icmp .eq (i_and (i_shr (i_loc 1) (i_loc 2)) (i_const 1)) (i_const 1)) (c_or (c_if .ne (i_and (i_ald (r_fld 9 3 (r_loc 0)) (i_loc 2)) (i_xor (i_loc 1) (i_const (-1))))) (c_if .ne (i_and (i_ald (r_fld 9 4 (r_loc 0)) (i_loc 2)) (i_loc 1))))) (s_retZ (i_const 0)))
 (s_inc 2 1))))
 (s_retZ (i_const 1)))
theorem O_mS_isConfiguration : OKS M_mS_isConfiguration := OK_seq (OK_sif (OK_if (OK_and (OK_iloc _) (OK_xor (OK_cV (OK_rloc _) OK_anil) (OK_const _)))) (OK_retZ (OK_const _))) (OK_seq (OK_seq (OK_ist (OK_const _)) (OK_whl (OK_icmp (OK_iloc _) (OK_ifld (OK_rloc _))) (OK_seq (OK_sif (OK_cand (OK_icmp (OK_and (OK_shr (OK_iloc _) (OK_iloc _)) (OK_const _)) (OK_const _)) (OK_cor (OK_if (OK_and (OK_iald (OK_rfld (OK_rloc _)) (OK_iloc _)) (OK_xor (OK_iloc _) (OK_const _)))) (OK_if (OK_and (OK_iald (OK_rfld (OK_rloc _)) (OK_iloc _)) (OK_iloc _))))) (OK_retZ (OK_const _))) OK_inc))) (OK_retZ (OK_const _)))
theorem K_mS_isConfiguration : M_mS_isConfiguration.1 (9, (kini 1), prog_12_method_10_code, some (.boolean), 3) 0 = some (66, false, []) := by decide +kernel
theorem C_mS_isConfiguration {d mc ms : Nat} {av : List Value} {h : FH} {Rr : Option Value → FH → Prop} (hl : (lg_sl av).length ≤ 3) (body : ∀ g : GE, g.1 = d → M_mS_isConfiguration.2 g (fun _ _ _ => False) Rr (eent 3 av) h (mc, ms)) : Call 174 d av h mc ms Rr := call_of2 (k := 174) (own := 9) ((mtb_4 (i := 14) (by decide)).trans rfl) (by decide +kernel) rfl O_mS_isConfiguration K_mS_isConfiguration hl body
/-- method 175: EventStructuresModel$Structure.all()I -/
def M_mS_all : ST := s_retI (i_sub (i_shl (i_const 1) (i_fld 9 0 (r_loc 0))) (i_const 1))
theorem O_mS_all : OKS M_mS_all := OK_retI (OK_sub (OK_shl (OK_const _) (OK_ifld (OK_rloc _))) (OK_const _))
theorem K_mS_all : M_mS_all.1 (9, (kini 1), prog_12_method_5_code, some (.int), 1) 0 = some (9, false, []) := by decide +kernel
theorem C_mS_all {d mc ms : Nat} {av : List Value} {h : FH} {Rr : Option Value → FH → Prop} (hl : (lg_sl av).length ≤ 1) (body : ∀ g : GE, g.1 = d → M_mS_all.2 g (fun _ _ _ => False) Rr (eent 1 av) h (mc, ms)) : Call 175 d av h mc ms Rr := call_of2 (k := 175) (own := 9) ((mtb_4 (i := 15) (by decide)).trans rfl) (by decide +kernel) rfl O_mS_all K_mS_all hl body
/-- method 178: EventStructuresModel$Structure.isMaximal(I)Z -/
def M_mS_isMaximal : ST := s_seq (s_if (c_not (c_b (e_cV Value.int 174 (r_loc 0) (aI1 (i_loc 1) a_nil)))) (s_retZ (i_const 0)))
 (s_seq (s_seq (s_ist 2 (i_const 0))
 (s_whl (c_icmp .le (i_loc 2) (e_cV Value.int 175 (r_loc 0) a_nil)) (s_seq (s_if (c_and (c_and (c_icmp .ne (i_loc 2) (i_loc 1)) (c_icmp .eq (i_and (i_loc 2) (i_loc 1)) (i_loc 1))) (c_b (e_cV Value.int 174 (r_loc 0) (aI1 (i_loc 2) a_nil)))) (s_retZ (i_const 0)))
 (s_inc 2 1))))
 (s_retZ (i_const 1)))
theorem O_mS_isMaximal : OKS M_mS_isMaximal := OK_seq (OK_sif (OK_not (OK_if (OK_cV (OK_rloc _) (OK_aI (OK_iloc _) OK_anil)))) (OK_retZ (OK_const _))) (OK_seq (OK_seq (OK_ist (OK_const _)) (OK_whl (OK_icmp (OK_iloc _) (OK_cV (OK_rloc _) OK_anil)) (OK_seq (OK_sif (OK_cand (OK_cand (OK_icmp (OK_iloc _) (OK_iloc _)) (OK_icmp (OK_and (OK_iloc _) (OK_iloc _)) (OK_iloc _))) (OK_if (OK_cV (OK_rloc _) (OK_aI (OK_iloc _) OK_anil)))) (OK_retZ (OK_const _))) OK_inc))) (OK_retZ (OK_const _)))
theorem K_mS_isMaximal : M_mS_isMaximal.1 (9, (kini 1), prog_12_method_12_code, some (.boolean), 3) 0 = some (50, false, []) := by decide +kernel
theorem C_mS_isMaximal {d mc ms : Nat} {av : List Value} {h : FH} {Rr : Option Value → FH → Prop} (hl : (lg_sl av).length ≤ 3) (body : ∀ g : GE, g.1 = d → M_mS_isMaximal.2 g (fun _ _ _ => False) Rr (eent 3 av) h (mc, ms)) : Call 178 d av h mc ms Rr := call_of2 (k := 178) (own := 9) ((mtb_4 (i := 18) (by decide)).trans rfl) (by decide +kernel) rfl O_mS_isMaximal K_mS_isMaximal hl body
/-- method 182: EventStructuresModel$Structure.enabled(I)I -/
def M_mS_enabled : ST := s_seq (s_ist 2 (i_const 0))
 (s_seq (s_seq (s_ist 3 (i_const 0))
 (s_whl (c_icmp .lt (i_loc 3) (i_fld 9 0 (r_loc 0))) (s_seq (s_if (c_and (c_if .eq (i_and (i_shr (i_loc 1) (i_loc 3)) (i_const 1))) (c_b (e_cV Value.int 174 (r_loc 0) (aI1 (i_or (i_loc 1) (i_shl (i_const 1) (i_loc 3))) a_nil)))) (s_ist 2 (i_or (i_loc 2) (i_shl (i_const 1) (i_loc 3)))))
 (s_inc 3 1))))
 (s_retI (i_loc 2)))
theorem O_mS_enabled : OKS M_mS_enabled := OK_seq (OK_ist (OK_const _)) (OK_seq (OK_seq (OK_ist (OK_const _)) (OK_whl (OK_icmp (OK_iloc _) (OK_ifld (OK_rloc _))) (OK_seq (OK_sif (OK_cand (OK_if (OK_and (OK_shr (OK_iloc _) (OK_iloc _)) (OK_const _))) (OK_if (OK_cV (OK_rloc _) (OK_aI (OK_or (OK_iloc _) (OK_shl (OK_const _) (OK_iloc _))) OK_anil)))) (OK_ist (OK_or (OK_iloc _) (OK_shl (OK_const _) (OK_iloc _))))) OK_inc))) (OK_retI (OK_iloc _)))
theorem K_mS_enabled : M_mS_enabled.1 (9, (kini 1), prog_12_method_11_code, some (.int), 4) 0 = some (46, false, []) := by decide +kernel
theorem C_mS_enabled {d mc ms : Nat} {av : List Value} {h : FH} {Rr : Option Value → FH → Prop} (hl : (lg_sl av).length ≤ 4) (body : ∀ g : GE, g.1 = d → M_mS_enabled.2 g (fun _ _ _ => False) Rr (eent 4 av) h (mc, ms)) : Call 182 d av h mc ms Rr := call_of2 (k := 182) (own := 9) ((mtb_4 (i := 22) (by decide)).trans rfl) (by decide +kernel) rfl O_mS_enabled K_mS_enabled hl body
/-- method 184: EventStructuresModel$Structure.prepare()V -/
def M_mS_prepare : ST := s_seq (s_seq (s_ist 1 (i_const 0))
 (s_whl (c_icmp .lt (i_loc 1) (i_fld 9 0 (r_loc 0))) (s_seq (s_seq (s_iast (r_fld 9 6 (r_loc 0)) (i_loc 1) (i_const 0))
 (s_seq (s_ist 2 (i_const 0))
 (s_whl (c_icmp .lt (i_loc 2) (i_fld 9 0 (r_loc 0))) (s_seq (s_opaI .ior (fun x y => x ||| y) (r_fld 9 6 (r_loc 0)) (i_loc 1) (e_cond (c_b (e_cV Value.int 171 (r_loc 0) (aI1 (i_loc 1) (aI1 (i_loc 2) a_nil)))) (i_shl (i_const 1) (i_loc 2)) (i_const 0)))
 (s_inc 2 1)))))
 (s_inc 1 1))))
 s_ret
theorem O_mS_prepare : OKS M_mS_prepare := OK_seq (OK_seq (OK_ist (OK_const _)) (OK_whl (OK_icmp (OK_iloc _) (OK_ifld (OK_rloc _))) (OK_seq (OK_seq (OK_siast (OK_rfld (OK_rloc _)) (OK_iloc _) (OK_const _)) (OK_seq (OK_ist (OK_const _)) (OK_whl (OK_icmp (OK_iloc _) (OK_ifld (OK_rloc _))) (OK_seq (OK_opaI (by simp) (fun K pc env st h bd x y X hd k => J_ior X hd k) (OK_rfld (OK_rloc _)) (OK_iloc _) (OK_econd (OK_if (OK_cV (OK_rloc _) (OK_aI (OK_iloc _) (OK_aI (OK_iloc _) OK_anil)))) (OK_shl (OK_const _) (OK_iloc _)) (OK_const _))) OK_inc)))) OK_inc))) OK_ret
theorem K_mS_prepare : M_mS_prepare.1 (9, (kini 1), prog_12_method_13_code, none, 3) 0 = some (65, false, []) := by decide +kernel
theorem C_mS_prepare {d mc ms : Nat} {av : List Value} {h : FH} {Rr : Option Value → FH → Prop} (hl : (lg_sl av).length ≤ 3) (body : ∀ g : GE, g.1 = d → M_mS_prepare.2 g (fun _ _ _ => False) Rr (eent 3 av) h (mc, ms)) : Call 184 d av h mc ms Rr := call_of2 (k := 184) (own := 9) ((mtb_4 (i := 24) (by decide)).trans rfl) (by decide +kernel) rfl O_mS_prepare K_mS_prepare hl body
/-- method 185: EventStructuresModel$Structure.isStep(II)Z -/
def M_mS_isStep : ST := s_retZ (e_cond (c_and (c_and (c_if .ne (i_loc 2)) (c_if .eq (i_and (i_loc 2) (i_xor (e_cV Value.int 182 (r_loc 0) (aI1 (i_loc 1) a_nil)) (i_const (-1)))))) (c_b (e_cV Value.int 186 (r_loc 0) (aI1 (i_loc 2) a_nil)))) (i_const 1) (i_const 0))
theorem O_mS_isStep : OKS M_mS_isStep := OK_retZ (OK_econd (OK_cand (OK_cand (OK_if (OK_iloc _)) (OK_if (OK_and (OK_iloc _) (OK_xor (OK_cV (OK_rloc _) (OK_aI (OK_iloc _) OK_anil)) (OK_const _))))) (OK_if (OK_cV (OK_rloc _) (OK_aI (OK_iloc _) OK_anil)))) (OK_const _) (OK_const _))
theorem K_mS_isStep : M_mS_isStep.1 (9, (kini 1), prog_12_method_15_code, some (.boolean), 3) 0 = some (30, false, []) := by decide +kernel
theorem C_mS_isStep {d mc ms : Nat} {av : List Value} {h : FH} {Rr : Option Value → FH → Prop} (hl : (lg_sl av).length ≤ 3) (body : ∀ g : GE, g.1 = d → M_mS_isStep.2 g (fun _ _ _ => False) Rr (eent 3 av) h (mc, ms)) : Call 185 d av h mc ms Rr := call_of2 (k := 185) (own := 9) ((mtb_4 (i := 25) (by decide)).trans rfl) (by decide +kernel) rfl O_mS_isStep K_mS_isStep hl body
/-- method 186: EventStructuresModel$Structure.isConcurrent(I)Z -/
def M_mS_isConcurrent : ST := s_seq (s_ist 2 (i_const 1))
 (s_seq (s_seq (s_ist 3 (i_const 0))
 (s_whl (c_icmp .lt (i_loc 3) (i_fld 9 0 (r_loc 0))) (s_seq (s_ist 2 (e_cond (c_and (c_b (i_loc 2)) (c_or (c_if .eq (i_and (i_shr (i_loc 1) (i_loc 3)) (i_const 1))) (c_if .eq (i_and (i_loc 1) (i_xor (i_or (i_ald (r_fld 9 6 (r_loc 0)) (i_loc 3)) (i_shl (i_const 1) (i_loc 3))) (i_const (-1))))))) (i_const 1) (i_const 0)))
 (s_inc 3 1))))
 (s_retZ (i_loc 2)))
theorem O_mS_isConcurrent : OKS M_mS_isConcurrent := OK_seq (OK_ist (OK_const _)) (OK_seq (OK_seq (OK_ist (OK_const _)) (OK_whl (OK_icmp (OK_iloc _) (OK_ifld (OK_rloc _))) (OK_seq (OK_ist (OK_econd (OK_cand (OK_if (OK_iloc _)) (OK_cor (OK_if (OK_and (OK_shr (OK_iloc _) (OK_iloc _)) (OK_const _))) (OK_if (OK_and (OK_iloc _) (OK_xor (OK_or (OK_iald (OK_rfld (OK_rloc _)) (OK_iloc _)) (OK_shl (OK_const _) (OK_iloc _))) (OK_const _)))))) (OK_const _) (OK_const _))) OK_inc))) (OK_retZ (OK_iloc _)))
theorem K_mS_isConcurrent : M_mS_isConcurrent.1 (9, (kini 1), prog_12_method_14_code, some (.boolean), 4) 0 = some (55, false, []) := by decide +kernel
theorem C_mS_isConcurrent {d mc ms : Nat} {av : List Value} {h : FH} {Rr : Option Value → FH → Prop} (hl : (lg_sl av).length ≤ 4) (body : ∀ g : GE, g.1 = d → M_mS_isConcurrent.2 g (fun _ _ _ => False) Rr (eent 4 av) h (mc, ms)) : Call 186 d av h mc ms Rr := call_of2 (k := 186) (own := 9) ((mtb_4 (i := 26) (by decide)).trans rfl) (by decide +kernel) rfl O_mS_isConcurrent K_mS_isConcurrent hl body
/-- method 208: EventStructuresModel$Layer.clear()V -/
def M_mL_clear : ST := s_seq (s_putI 8 3 (r_loc 0) (i_const 0))
 s_ret
theorem O_mL_clear : OKS M_mL_clear := OK_seq (OK_putI (OK_rloc _) (OK_const _)) OK_ret
theorem K_mL_clear : M_mL_clear.1 (8, (kini 1), prog_11_method_2_code, none, 1) 0 = some (6, false, []) := by decide +kernel
theorem C_mL_clear {d mc ms : Nat} {av : List Value} {h : FH} {Rr : Option Value → FH → Prop} (hl : (lg_sl av).length ≤ 1) (body : ∀ g : GE, g.1 = d → M_mL_clear.2 g (fun _ _ _ => False) Rr (eent 1 av) h (mc, ms)) : Call 208 d av h mc ms Rr := call_of2 (k := 208) (own := 8) ((mtb_5 (i := 8) (by decide)).trans rfl) (by decide +kernel) rfl O_mL_clear K_mL_clear hl body
/-- method 209: EventStructuresModel$Layer.add([JLEventStructuresModel$Layer;IIII)V -/
def M_mL_add : ST := s_seq (s_seq (s_ist 7 (i_const 0))
 (s_whl (c_icmp .lt (i_loc 7) (i_fld 8 3 (r_loc 0))) (s_seq (s_seq (s_ist 8 (i_const 1))
 (s_seq (s_seq (s_ist 9 (i_const 0))
 (s_whl (c_icmp .lt (i_loc 9) (i_const 8)) (s_seq (s_ist 8 (e_cond (c_and (c_b (i_loc 8)) (c_lcmp .eq (l_ald (r_fld 8 0 (r_loc 0)) (i_add (i_mul (i_const 8) (i_loc 7)) (i_loc 9))) (l_ald (r_loc 1) (i_loc 9)))) (i_const 1) (i_const 0)))
 (s_inc 9 1))))
 (s_if (c_b (i_loc 8)) (s_seq (s_opaI .iadd (fun x y => x + y) (r_fld 8 2 (r_loc 0)) (i_loc 7) (i_loc 6))
 s_ret))))
 (s_inc 7 1))))
 (s_seq (s_cV 210 (r_loc 0) a_nil)
 (s_seq (s_copyL (r_loc 1) (i_const 0) (r_fld 8 0 (r_loc 0)) (i_mul (i_const 8) (i_fld 8 3 (r_loc 0))) (i_const 8))
 (s_seq (s_seq (s_ist 7 (i_const 0))
 (s_whl (c_icmp .lt (i_loc 7) (i_loc 4)) (s_seq (s_iast (r_fld 8 1 (r_loc 0)) (i_add (i_mul (i_const 8) (i_fld 8 3 (r_loc 0))) (i_loc 7)) (i_ald (r_fld 8 1 (r_loc 2)) (i_add (i_mul (i_const 8) (i_loc 3)) (i_loc 7))))
 (s_inc 7 1))))
 (s_seq (s_if (c_if .ge (i_loc 5)) (s_iast (r_fld 8 1 (r_loc 0)) (i_add (i_mul (i_const 8) (i_fld 8 3 (r_loc 0))) (i_loc 4)) (i_loc 5)))
 (s_seq (s_iast (r_fld 8 2 (r_loc 0)) (i_fld 8 3 (r_loc 0)) (i_loc 6))
 (s_seq (s_opf 8 3 .iadd (fun x y => x + y) (r_loc 0) (i_const 1))
 s_ret))))))
theorem O_mL_add : OKS M_mL_add := OK_seq (OK_seq (OK_ist (OK_const _)) (OK_whl (OK_icmp (OK_iloc _) (OK_ifld (OK_rloc _))) (OK_seq (OK_seq (OK_ist (OK_const _)) (OK_seq (OK_seq (OK_ist (OK_const _)) (OK_whl (OK_icmp (OK_iloc _) (OK_const _)) (OK_seq (OK_ist (OK_econd (OK_cand (OK_if (OK_iloc _)) (OK_lcmp (OK_lald (OK_rfld (OK_rloc _)) (OK_add (OK_mul (OK_const _) (OK_iloc _)) (OK_iloc _))) (OK_lald (OK_rloc _) (OK_iloc _)))) (OK_const _) (OK_const _))) OK_inc))) (OK_sif (OK_if (OK_iloc _)) (OK_seq (OK_opaI (by simp) (fun K pc env st h bd x y X hd k => J_iadd X hd k) (OK_rfld (OK_rloc _)) (OK_iloc _) (OK_iloc _)) OK_ret)))) OK_inc))) (OK_seq (OK_scV (OK_rloc _) OK_anil) (OK_seq (OK_copyL (OK_rloc _) (OK_const _) (OK_rfld (OK_rloc _)) (OK_mul (OK_const _) (OK_ifld (OK_rloc _))) (OK_const _)) (OK_seq (OK_seq (OK_ist (OK_const _)) (OK_whl (OK_icmp (OK_iloc _) (OK_iloc _)) (OK_seq (OK_siast (OK_rfld (OK_rloc _)) (OK_add (OK_mul (OK_const _) (OK_ifld (OK_rloc _))) (OK_iloc _)) (OK_iald (OK_rfld (OK_rloc _)) (OK_add (OK_mul (OK_const _) (OK_iloc _)) (OK_iloc _)))) OK_inc))) (OK_seq (OK_sif (OK_if (OK_iloc _)) (OK_siast (OK_rfld (OK_rloc _)) (OK_add (OK_mul (OK_const _) (OK_ifld (OK_rloc _))) (OK_iloc _)) (OK_iloc _))) (OK_seq (OK_siast (OK_rfld (OK_rloc _)) (OK_ifld (OK_rloc _)) (OK_iloc _)) (OK_seq (OK_opf (by simp) (fun K pc env st h bd x y X hd k => J_iadd X hd k) (OK_rloc _) (OK_const _)) OK_ret))))))
theorem K_mL_add : M_mL_add.1 (8, (kini 1), prog_11_method_4_code, none, 10) 0 = some (197, false, []) := by decide +kernel
theorem C_mL_add {d mc ms : Nat} {av : List Value} {h : FH} {Rr : Option Value → FH → Prop} (hl : (lg_sl av).length ≤ 10) (body : ∀ g : GE, g.1 = d → M_mL_add.2 g (fun _ _ _ => False) Rr (eent 10 av) h (mc, ms)) : Call 209 d av h mc ms Rr := call_of2 (k := 209) (own := 8) ((mtb_5 (i := 9) (by decide)).trans rfl) (by decide +kernel) rfl O_mL_add K_mL_add hl body
/-- method 210: EventStructuresModel$Layer.ensure()V -/
def M_mL_ensure : ST := s_seq (s_if (c_icmp .eq (i_fld 8 3 (r_loc 0)) (i_len (r_fld 8 2 (r_loc 0)))) (s_seq (s_ast 1 (r_newa .long (i_mul (i_const 2) (i_len (r_fld 8 0 (r_loc 0))))))
 (s_seq (s_ast 2 (r_newa .int (i_mul (i_const 2) (i_len (r_fld 8 1 (r_loc 0))))))
 (s_seq (s_ast 3 (r_newa .int (i_mul (i_const 2) (i_len (r_fld 8 2 (r_loc 0))))))
 (s_seq (s_copyL (r_fld 8 0 (r_loc 0)) (i_const 0) (r_loc 1) (i_const 0) (i_len (r_fld 8 0 (r_loc 0))))
 (s_seq (s_copyI (r_fld 8 1 (r_loc 0)) (i_const 0) (r_loc 2) (i_const 0) (i_len (r_fld 8 1 (r_loc 0))))
 (s_seq (s_copyI (r_fld 8 2 (r_loc 0)) (i_const 0) (r_loc 3) (i_const 0) (i_len (r_fld 8 2 (r_loc 0))))
 (s_seq (s_putR 8 0 (r_loc 0) (r_loc 1))
 (s_seq (s_putR 8 1 (r_loc 0) (r_loc 2))
 (s_putR 8 2 (r_loc 0) (r_loc 3)))))))))))
 s_ret
theorem O_mL_ensure : OKS M_mL_ensure := OK_seq (OK_sif (OK_icmp (OK_ifld (OK_rloc _)) (OK_len (OK_rfld (OK_rloc _)))) (OK_seq (OK_ast (OK_newa (OK_mul (OK_const _) (OK_len (OK_rfld (OK_rloc _)))))) (OK_seq (OK_ast (OK_newa (OK_mul (OK_const _) (OK_len (OK_rfld (OK_rloc _)))))) (OK_seq (OK_ast (OK_newa (OK_mul (OK_const _) (OK_len (OK_rfld (OK_rloc _)))))) (OK_seq (OK_copyL (OK_rfld (OK_rloc _)) (OK_const _) (OK_rloc _) (OK_const _) (OK_len (OK_rfld (OK_rloc _)))) (OK_seq (OK_copyI (OK_rfld (OK_rloc _)) (OK_const _) (OK_rloc _) (OK_const _) (OK_len (OK_rfld (OK_rloc _)))) (OK_seq (OK_copyI (OK_rfld (OK_rloc _)) (OK_const _) (OK_rloc _) (OK_const _) (OK_len (OK_rfld (OK_rloc _)))) (OK_seq (OK_putR (OK_rloc _) (OK_rloc _)) (OK_seq (OK_putR (OK_rloc _) (OK_rloc _)) (OK_putR (OK_rloc _) (OK_rloc _))))))))))) OK_ret
theorem K_mL_ensure : M_mL_ensure.1 (8, (kini 1), prog_11_method_3_code, none, 4) 0 = some (103, false, []) := by decide +kernel
theorem C_mL_ensure {d mc ms : Nat} {av : List Value} {h : FH} {Rr : Option Value → FH → Prop} (hl : (lg_sl av).length ≤ 4) (body : ∀ g : GE, g.1 = d → M_mL_ensure.2 g (fun _ _ _ => False) Rr (eent 4 av) h (mc, ms)) : Call 210 d av h mc ms Rr := call_of2 (k := 210) (own := 8) ((mtb_5 (i := 10) (by decide)).trans rfl) (by decide +kernel) rfl O_mL_ensure K_mL_ensure hl body
