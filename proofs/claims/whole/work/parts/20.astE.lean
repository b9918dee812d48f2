/-! the methods, as statements (by j2l.py out of the sources); K_: their bytecode is that statement's; C_: their contract out of what the statement does -/
/-- method 0: EventStructures.<init>()V -/
def M_eM_init : ST := s_seq s_sup
 (s_seq (s_ast 1 (r_new 3 2 (aR1 (r_new 4 1 a_nil) a_nil)))
 (s_seq (s_ast 2 (r_new 3 2 (aR1 (r_new 4 1 a_nil) a_nil)))
 (s_seq (s_putR 7 0 (r_loc 0) (r_fld 3 0 (r_loc 1)))
 (s_seq (s_putR 7 1 (r_loc 0) (r_fld 3 0 (r_loc 2)))
 (s_seq (s_putR 7 2 (r_loc 0) (r_new 4 1 a_nil))
 (s_seq (s_putR 7 3 (r_loc 0) (r_new 4 1 a_nil))
 (s_seq (s_putR 7 4 (r_loc 0) (r_new 4 1 a_nil))
 (s_seq (s_putR 7 5 (r_loc 0) (r_loc 1))
 (s_seq (s_putR 7 6 (r_loc 0) (r_loc 2))
 (s_seq (s_putR 7 7 (r_loc 0) (r_new 0 3 (aR1 (r_loc 1) (aR1 (r_loc 2) a_nil))))
 (s_seq (s_putR 7 8 (r_loc 0) (r_new 6 4 (aR1 (r_loc 1) (aR1 (r_loc 2) a_nil))))
 (s_seq (s_putR 7 9 (r_loc 0) (r_new 2 5 a_nil))
 (s_seq (s_putR 7 10 (r_loc 0) (r_new 2 5 a_nil))
 (s_seq (s_putR 7 11 (r_loc 0) (r_new 5 6 a_nil))
 (s_seq (s_putR 7 12 (r_loc 0) (r_new 1 7 a_nil))
 (s_seq (s_putZ 7 13 (r_loc 0) (i_const 0))
 (s_seq (s_putI 7 14 (r_loc 0) (i_const 0))
 s_ret)))))))))))))))))
theorem O_eM_init : OKS M_eM_init := OK_seq OK_sup (OK_seq (OK_ast (OK_new (OK_aR (OK_new OK_anil) OK_anil))) (OK_seq (OK_ast (OK_new (OK_aR (OK_new OK_anil) OK_anil))) (OK_seq (OK_putR (OK_rloc _) (OK_rfld (OK_rloc _))) (OK_seq (OK_putR (OK_rloc _) (OK_rfld (OK_rloc _))) (OK_seq (OK_putR (OK_rloc _) (OK_new OK_anil)) (OK_seq (OK_putR (OK_rloc _) (OK_new OK_anil)) (OK_seq (OK_putR (OK_rloc _) (OK_new OK_anil)) (OK_seq (OK_putR (OK_rloc _) (OK_rloc _)) (OK_seq (OK_putR (OK_rloc _) (OK_rloc _)) (OK_seq (OK_putR (OK_rloc _) (OK_new (OK_aR (OK_rloc _) (OK_aR (OK_rloc _) OK_anil)))) (OK_seq (OK_putR (OK_rloc _) (OK_new (OK_aR (OK_rloc _) (OK_aR (OK_rloc _) OK_anil)))) (OK_seq (OK_putR (OK_rloc _) (OK_new OK_anil)) (OK_seq (OK_putR (OK_rloc _) (OK_new OK_anil)) (OK_seq (OK_putR (OK_rloc _) (OK_new OK_anil)) (OK_seq (OK_putR (OK_rloc _) (OK_new OK_anil)) (OK_seq (OK_putZ (OK_rloc _) (OK_const _)) (OK_seq (OK_putI (OK_rloc _) (OK_const _)) OK_ret)))))))))))))))))
theorem K_eM_init : M_eM_init.1 (7, (kini 2), prog_1_method_1_code, none, 3) 0 = some (174, false, []) := by decide +kernel
theorem C_eM_init {d mc ms : Nat} {av : List Value} {h : FH} {Rr : Option Value → FH → Prop} (hl : (lg_sl av).length ≤ 3) (body : ∀ g : GE, g.1 = d → M_eM_init.2 g (fun _ _ _ => False) Rr (eent 3 av) h (mc, ms)) : Call 0 d av h mc ms Rr := call_of2 (k := 0) (own := 7) ((mtb_0 (i := 0) (by decide)).trans rfl) (by decide +kernel) rfl O_eM_init K_eM_init hl body
/-- method 1: EventStructures$Structure.<init>()V -/
def M_eS_init : ST := s_seq s_sup
 (s_seq (s_putR 4 0 (r_loc 0) (r_newa .int (i_const 8)))
 (s_seq (s_putR 4 1 (r_loc 0) (r_newa .int (i_const 8)))
 (s_seq (s_putR 4 2 (r_loc 0) (r_newa .int (i_const 8)))
 (s_seq (s_putR 4 3 (r_loc 0) (r_newa .int (i_const 8)))
 (s_seq (s_putR 4 4 (r_loc 0) (r_newa .int (i_const 8)))
 (s_seq (s_putI 4 5 (r_loc 0) (i_const 0))
 (s_seq (s_putI 4 6 (r_loc 0) (i_const 0))
 (s_seq (s_putI 4 7 (r_loc 0) (i_const 0))
 s_ret))))))))
theorem O_eS_init : OKS M_eS_init := OK_seq OK_sup (OK_seq (OK_putR (OK_rloc _) (OK_newa (OK_const _))) (OK_seq (OK_putR (OK_rloc _) (OK_newa (OK_const _))) (OK_seq (OK_putR (OK_rloc _) (OK_newa (OK_const _))) (OK_seq (OK_putR (OK_rloc _) (OK_newa (OK_const _))) (OK_seq (OK_putR (OK_rloc _) (OK_newa (OK_const _))) (OK_seq (OK_putI (OK_rloc _) (OK_const _)) (OK_seq (OK_putI (OK_rloc _) (OK_const _)) (OK_seq (OK_putI (OK_rloc _) (OK_const _)) OK_ret))))))))
theorem K_eS_init : M_eS_init.1 (4, (kini 2), prog_6_method_1_code, none, 1) 0 = some (60, false, []) := by decide +kernel
theorem C_eS_init {d mc ms : Nat} {av : List Value} {h : FH} {Rr : Option Value → FH → Prop} (hl : (lg_sl av).length ≤ 1) (body : ∀ g : GE, g.1 = d → M_eS_init.2 g (fun _ _ _ => False) Rr (eent 1 av) h (mc, ms)) : Call 1 d av h mc ms Rr := call_of2 (k := 1) (own := 4) ((mtb_0 (i := 1) (by decide)).trans rfl) (by decide +kernel) rfl O_eS_init K_eS_init hl body
/-- method 2: EventStructures$Space.<init>(LEventStructures$Structure;)V -/
def M_eP_init : ST := s_seq s_sup
 (s_seq (s_putR 3 1 (r_loc 0) (r_newa .int (i_const 8)))
 (s_seq (s_putR 3 2 (r_loc 0) (r_newa .int (i_const 8)))
 (s_seq (s_putR 3 3 (r_loc 0) (r_newa .boolean (i_const 256)))
 (s_seq (s_putR 3 4 (r_loc 0) (r_newa .int (i_const 256)))
 (s_seq (s_putR 3 5 (r_loc 0) (r_newa .int (i_const 256)))
 (s_seq (s_putR 3 6 (r_loc 0) (r_newa .long (i_const 8)))
 (s_seq (s_putI 3 7 (r_loc 0) (i_const (-1)))
 (s_seq (s_putR 3 0 (r_loc 0) (r_loc 1))
 s_ret))))))))
theorem O_eP_init : OKS M_eP_init := OK_seq OK_sup (OK_seq (OK_putR (OK_rloc _) (OK_newa (OK_const _))) (OK_seq (OK_putR (OK_rloc _) (OK_newa (OK_const _))) (OK_seq (OK_putR (OK_rloc _) (OK_newa (OK_const _))) (OK_seq (OK_putR (OK_rloc _) (OK_newa (OK_const _))) (OK_seq (OK_putR (OK_rloc _) (OK_newa (OK_const _))) (OK_seq (OK_putR (OK_rloc _) (OK_newa (OK_const _))) (OK_seq (OK_putI (OK_rloc _) (OK_const _)) (OK_seq (OK_putR (OK_rloc _) (OK_rloc _)) OK_ret))))))))
theorem K_eP_init : M_eP_init.1 (3, (kini 2), prog_5_method_1_code, none, 2) 0 = some (66, false, []) := by decide +kernel
theorem C_eP_init {d mc ms : Nat} {av : List Value} {h : FH} {Rr : Option Value → FH → Prop} (hl : (lg_sl av).length ≤ 2) (body : ∀ g : GE, g.1 = d → M_eP_init.2 g (fun _ _ _ => False) Rr (eent 2 av) h (mc, ms)) : Call 2 d av h mc ms Rr := call_of2 (k := 2) (own := 3) ((mtb_0 (i := 2) (by decide)).trans rfl) (by decide +kernel) rfl O_eP_init K_eP_init hl body
/-- method 8: EventStructures.addEvent(III)I -/
def M_eM_addEvent : ST := s_seq (s_ast 4 (e_cV va_rf 9 (r_loc 0) (aI1 (i_loc 1) a_nil)))
 (s_seq (s_if (c_nul true (r_loc 4)) (s_retI (i_const (-1))))
 (s_seq (s_if (c_or (c_or (c_not (c_b (e_cS Value.int 10 (aI1 (i_loc 2) a_nil)))) (c_if .lt (i_loc 3))) (c_icmp .gt (i_loc 3) (i_const 1000000000))) (s_retI (i_const (-2))))
 (s_retI (e_cV Value.int 11 (r_loc 4) (aI1 (i_loc 2) (aI1 (i_loc 3) a_nil))))))
theorem O_eM_addEvent : OKS M_eM_addEvent := OK_seq (OK_ast (OK_cV (OK_rloc _) (OK_aI (OK_iloc _) OK_anil))) (OK_seq (OK_sif (OK_nul (OK_rloc _)) (OK_retI (OK_const _))) (OK_seq (OK_sif (OK_cor (OK_cor (OK_not (OK_if (OK_cS (OK_aI (OK_iloc _) OK_anil)))) (OK_if (OK_iloc _))) (OK_icmp (OK_iloc _) (OK_const _))) (OK_retI (OK_const _))) (OK_retI (OK_cV (OK_rloc _) (OK_aI (OK_iloc _) (OK_aI (OK_iloc _) OK_anil))))))
theorem K_eM_addEvent : M_eM_addEvent.1 (7, (kini 1), prog_1_method_2_code, some (.int), 5) 0 = some (42, false, []) := by decide +kernel
theorem C_eM_addEvent {d mc ms : Nat} {av : List Value} {h : FH} {Rr : Option Value → FH → Prop} (hl : (lg_sl av).length ≤ 5) (body : ∀ g : GE, g.1 = d → M_eM_addEvent.2 g (fun _ _ _ => False) Rr (eent 5 av) h (mc, ms)) : Call 8 d av h mc ms Rr := call_of2 (k := 8) (own := 7) ((mtb_0 (i := 8) (by decide)).trans rfl) (by decide +kernel) rfl O_eM_addEvent K_eM_addEvent hl body
/-- method 9: EventStructures.structureOf(I)LEventStructures$Structure; -/
def M_eM_structureOf : ST := s_retR (e_cond (c_if .eq (i_loc 1)) (r_fld 7 0 (r_loc 0)) (e_cond (c_icmp .eq (i_loc 1) (i_const 1)) (r_fld 7 1 (r_loc 0)) r_null))
theorem O_eM_structureOf : OKS M_eM_structureOf := OK_retR (OK_econd (OK_if (OK_iloc _)) (OK_rfld (OK_rloc _)) (OK_econd (OK_icmp (OK_iloc _) (OK_const _)) (OK_rfld (OK_rloc _)) OK_null))
theorem K_eM_structureOf : M_eM_structureOf.1 (7, (kini 1), prog_1_method_45_code, some (.object "EventStructures$Structure"), 2) 0 = some (25, false, []) := by decide +kernel
theorem C_eM_structureOf {d mc ms : Nat} {av : List Value} {h : FH} {Rr : Option Value → FH → Prop} (hl : (lg_sl av).length ≤ 2) (body : ∀ g : GE, g.1 = d → M_eM_structureOf.2 g (fun _ _ _ => False) Rr (eent 2 av) h (mc, ms)) : Call 9 d av h mc ms Rr := call_of2 (k := 9) (own := 7) ((mtb_0 (i := 9) (by decide)).trans rfl) (by decide +kernel) rfl O_eM_structureOf K_eM_structureOf hl body
/-- method 10: EventStructures.isLabel(I)Z -/
def M_eM_isLabel : ST := s_retZ (e_cond (c_and (c_if .ge (i_loc 0)) (c_icmp .lt (i_loc 0) (i_const 6))) (i_const 1) (i_const 0))
theorem O_eM_isLabel : OKS M_eM_isLabel := OK_retZ (OK_econd (OK_cand (OK_if (OK_iloc _)) (OK_icmp (OK_iloc _) (OK_const _))) (OK_const _) (OK_const _))
theorem K_eM_isLabel : M_eM_isLabel.1 (7, (kini 0), prog_1_method_48_code, some (.boolean), 1) 0 = some (16, false, []) := by decide +kernel
theorem C_eM_isLabel {d mc ms : Nat} {av : List Value} {h : FH} {Rr : Option Value → FH → Prop} (hl : (lg_sl av).length ≤ 1) (body : ∀ g : GE, g.1 = d → M_eM_isLabel.2 g (fun _ _ _ => False) Rr (eent 1 av) h (mc, ms)) : Call 10 d av h mc ms Rr := call_of2 (k := 10) (own := 7) ((mtb_0 (i := 10) (by decide)).trans rfl) (by decide +kernel) rfl O_eM_isLabel K_eM_isLabel hl body
/-- method 11: EventStructures$Structure.add(II)I -/
def M_eS_add : ST := s_seq (s_if (c_icmp .ge (i_fld 4 5 (r_loc 0)) (i_const 8)) (s_retI (i_const (-3))))
 (s_seq (s_iast (r_fld 4 0 (r_loc 0)) (i_fld 4 5 (r_loc 0)) (i_loc 1))
 (s_seq (s_iast (r_fld 4 1 (r_loc 0)) (i_fld 4 5 (r_loc 0)) (i_loc 2))
 (s_seq (s_iast (r_fld 4 2 (r_loc 0)) (i_fld 4 5 (r_loc 0)) (i_const 0))
 (s_seq (s_iast (r_fld 4 3 (r_loc 0)) (i_fld 4 5 (r_loc 0)) (i_const 0))
 (s_seq (s_opf 4 5 .iadd (fun x y => x + y) (r_loc 0) (i_const 1))
 (s_seq (s_cV 12 (r_loc 0) a_nil)
 (s_retI (i_sub (i_fld 4 5 (r_loc 0)) (i_const 1)))))))))
theorem O_eS_add : OKS M_eS_add := OK_seq (OK_sif (OK_icmp (OK_ifld (OK_rloc _)) (OK_const _)) (OK_retI (OK_const _))) (OK_seq (OK_siast (OK_rfld (OK_rloc _)) (OK_ifld (OK_rloc _)) (OK_iloc _)) (OK_seq (OK_siast (OK_rfld (OK_rloc _)) (OK_ifld (OK_rloc _)) (OK_iloc _)) (OK_seq (OK_siast (OK_rfld (OK_rloc _)) (OK_ifld (OK_rloc _)) (OK_const _)) (OK_seq (OK_siast (OK_rfld (OK_rloc _)) (OK_ifld (OK_rloc _)) (OK_const _)) (OK_seq (OK_opf (by simp) (fun K pc env st h bd x y X hd k => J_iadd X hd k) (OK_rloc _) (OK_const _)) (OK_seq (OK_scV (OK_rloc _) OK_anil) (OK_retI (OK_sub (OK_ifld (OK_rloc _)) (OK_const _)))))))))
theorem K_eS_add : M_eS_add.1 (4, (kini 1), prog_6_method_4_code, some (.int), 3) 0 = some (73, false, []) := by decide +kernel
theorem C_eS_add {d mc ms : Nat} {av : List Value} {h : FH} {Rr : Option Value → FH → Prop} (hl : (lg_sl av).length ≤ 3) (body : ∀ g : GE, g.1 = d → M_eS_add.2 g (fun _ _ _ => False) Rr (eent 3 av) h (mc, ms)) : Call 11 d av h mc ms Rr := call_of2 (k := 11) (own := 4) ((mtb_0 (i := 11) (by decide)).trans rfl) (by decide +kernel) rfl O_eS_add K_eS_add hl body
/-- method 12: EventStructures$Structure.noteChange()V -/
def M_eS_noteChange : ST := s_seq (s_putI 4 6 (r_loc 0) (i_const 0))
 (s_seq (s_opf 4 7 .iadd (fun x y => x + y) (r_loc 0) (i_const 1))
 s_ret)
theorem O_eS_noteChange : OKS M_eS_noteChange := OK_seq (OK_putI (OK_rloc _) (OK_const _)) (OK_seq (OK_opf (by simp) (fun K pc env st h bd x y X hd k => J_iadd X hd k) (OK_rloc _) (OK_const _)) OK_ret)
theorem K_eS_noteChange : M_eS_noteChange.1 (4, (kini 1), prog_6_method_3_code, none, 1) 0 = some (16, false, []) := by decide +kernel
theorem C_eS_noteChange {d mc ms : Nat} {av : List Value} {h : FH} {Rr : Option Value → FH → Prop} (hl : (lg_sl av).length ≤ 1) (body : ∀ g : GE, g.1 = d → M_eS_noteChange.2 g (fun _ _ _ => False) Rr (eent 1 av) h (mc, ms)) : Call 12 d av h mc ms Rr := call_of2 (k := 12) (own := 4) ((mtb_0 (i := 12) (by decide)).trans rfl) (by decide +kernel) rfl O_eS_noteChange K_eS_noteChange hl body
/-- method 13: EventStructures.removeEvent(II)I -/
def M_eM_removeEvent : ST := s_seq (s_ast 3 (e_cV va_rf 9 (r_loc 0) (aI1 (i_loc 1) a_nil)))
 (s_seq (s_if (c_or (c_nul true (r_loc 3)) (c_not (c_b (e_cV Value.int 14 (r_loc 3) (aI1 (i_loc 2) a_nil))))) (s_retI (i_const (-1))))
 (s_seq (s_cV 15 (r_loc 3) (aI1 (i_loc 2) a_nil))
 (s_retI (i_fld 4 5 (r_loc 3)))))
theorem O_eM_removeEvent : OKS M_eM_removeEvent := OK_seq (OK_ast (OK_cV (OK_rloc _) (OK_aI (OK_iloc _) OK_anil))) (OK_seq (OK_sif (OK_cor (OK_nul (OK_rloc _)) (OK_not (OK_if (OK_cV (OK_rloc _) (OK_aI (OK_iloc _) OK_anil))))) (OK_retI (OK_const _))) (OK_seq (OK_scV (OK_rloc _) (OK_aI (OK_iloc _) OK_anil)) (OK_retI (OK_ifld (OK_rloc _)))))
theorem K_eM_removeEvent : M_eM_removeEvent.1 (7, (kini 1), prog_1_method_3_code, some (.int), 4) 0 = some (30, false, []) := by decide +kernel
theorem C_eM_removeEvent {d mc ms : Nat} {av : List Value} {h : FH} {Rr : Option Value → FH → Prop} (hl : (lg_sl av).length ≤ 4) (body : ∀ g : GE, g.1 = d → M_eM_removeEvent.2 g (fun _ _ _ => False) Rr (eent 4 av) h (mc, ms)) : Call 13 d av h mc ms Rr := call_of2 (k := 13) (own := 7) ((mtb_0 (i := 13) (by decide)).trans rfl) (by decide +kernel) rfl O_eM_removeEvent K_eM_removeEvent hl body
/-- method 14: EventStructures$Structure.has(I)Z -/
def M_eS_has : ST := s_retZ (e_cond (c_and (c_if .ge (i_loc 1)) (c_icmp .lt (i_loc 1) (i_fld 4 5 (r_loc 0)))) (i_const 1) (i_const 0))
theorem O_eS_has : OKS M_eS_has := OK_retZ (OK_econd (OK_cand (OK_if (OK_iloc _)) (OK_icmp (OK_iloc _) (OK_ifld (OK_rloc _)))) (OK_const _) (OK_const _))
theorem K_eS_has : M_eS_has.1 (4, (kini 1), prog_6_method_2_code, some (.boolean), 2) 0 = some (18, false, []) := by decide +kernel
theorem C_eS_has {d mc ms : Nat} {av : List Value} {h : FH} {Rr : Option Value → FH → Prop} (hl : (lg_sl av).length ≤ 2) (body : ∀ g : GE, g.1 = d → M_eS_has.2 g (fun _ _ _ => False) Rr (eent 2 av) h (mc, ms)) : Call 14 d av h mc ms Rr := call_of2 (k := 14) (own := 4) ((mtb_0 (i := 14) (by decide)).trans rfl) (by decide +kernel) rfl O_eS_has K_eS_has hl body
/-- method 15: EventStructures$Structure.drop(I)V -/
def M_eS_drop : ST := s_seq (s_seq (s_ist 2 (i_loc 1))
 (s_whl (c_icmp .lt (i_add (i_loc 2) (i_const 1)) (i_fld 4 5 (r_loc 0))) (s_seq (s_seq (s_iast (r_fld 4 0 (r_loc 0)) (i_loc 2) (i_ald (r_fld 4 0 (r_loc 0)) (i_add (i_loc 2) (i_const 1))))
 (s_seq (s_iast (r_fld 4 1 (r_loc 0)) (i_loc 2) (i_ald (r_fld 4 1 (r_loc 0)) (i_add (i_loc 2) (i_const 1))))
 (s_seq (s_iast (r_fld 4 2 (r_loc 0)) (i_loc 2) (i_ald (r_fld 4 2 (r_loc 0)) (i_add (i_loc 2) (i_const 1))))
 (s_iast (r_fld 4 3 (r_loc 0)) (i_loc 2) (i_ald (r_fld 4 3 (r_loc 0)) (i_add (i_loc 2) (i_const 1)))))))
 (s_inc 2 1))))
 (s_seq (s_opf 4 5 .isub (fun x y => x - y) (r_loc 0) (i_const 1))
 (s_seq (s_seq (s_ist 2 (i_const 0))
 (s_whl (c_icmp .lt (i_loc 2) (i_fld 4 5 (r_loc 0))) (s_seq (s_seq (s_iast (r_fld 4 2 (r_loc 0)) (i_loc 2) (e_cS Value.int 16 (aI1 (i_ald (r_fld 4 2 (r_loc 0)) (i_loc 2)) (aI1 (i_loc 1) a_nil))))
 (s_iast (r_fld 4 3 (r_loc 0)) (i_loc 2) (e_cS Value.int 16 (aI1 (i_ald (r_fld 4 3 (r_loc 0)) (i_loc 2)) (aI1 (i_loc 1) a_nil)))))
 (s_inc 2 1))))
 (s_seq (s_cV 12 (r_loc 0) a_nil)
 s_ret)))
theorem O_eS_drop : OKS M_eS_drop := OK_seq (OK_seq (OK_ist (OK_iloc _)) (OK_whl (OK_icmp (OK_add (OK_iloc _) (OK_const _)) (OK_ifld (OK_rloc _))) (OK_seq (OK_seq (OK_siast (OK_rfld (OK_rloc _)) (OK_iloc _) (OK_iald (OK_rfld (OK_rloc _)) (OK_add (OK_iloc _) (OK_const _)))) (OK_seq (OK_siast (OK_rfld (OK_rloc _)) (OK_iloc _) (OK_iald (OK_rfld (OK_rloc _)) (OK_add (OK_iloc _) (OK_const _)))) (OK_seq (OK_siast (OK_rfld (OK_rloc _)) (OK_iloc _) (OK_iald (OK_rfld (OK_rloc _)) (OK_add (OK_iloc _) (OK_const _)))) (OK_siast (OK_rfld (OK_rloc _)) (OK_iloc _) (OK_iald (OK_rfld (OK_rloc _)) (OK_add (OK_iloc _) (OK_const _))))))) OK_inc))) (OK_seq (OK_opf (by simp) (fun K pc env st h bd x y X hd k => J_isub X hd k) (OK_rloc _) (OK_const _)) (OK_seq (OK_seq (OK_ist (OK_const _)) (OK_whl (OK_icmp (OK_iloc _) (OK_ifld (OK_rloc _))) (OK_seq (OK_seq (OK_siast (OK_rfld (OK_rloc _)) (OK_iloc _) (OK_cS (OK_aI (OK_iald (OK_rfld (OK_rloc _)) (OK_iloc _)) (OK_aI (OK_iloc _) OK_anil)))) (OK_siast (OK_rfld (OK_rloc _)) (OK_iloc _) (OK_cS (OK_aI (OK_iald (OK_rfld (OK_rloc _)) (OK_iloc _)) (OK_aI (OK_iloc _) OK_anil))))) OK_inc))) (OK_seq (OK_scV (OK_rloc _) OK_anil) OK_ret)))
theorem K_eS_drop : M_eS_drop.1 (4, (kini 1), prog_6_method_5_code, none, 3) 0 = some (137, false, []) := by decide +kernel
theorem C_eS_drop {d mc ms : Nat} {av : List Value} {h : FH} {Rr : Option Value → FH → Prop} (hl : (lg_sl av).length ≤ 3) (body : ∀ g : GE, g.1 = d → M_eS_drop.2 g (fun _ _ _ => False) Rr (eent 3 av) h (mc, ms)) : Call 15 d av h mc ms Rr := call_of2 (k := 15) (own := 4) ((mtb_0 (i := 15) (by decide)).trans rfl) (by decide +kernel) rfl O_eS_drop K_eS_drop hl body
/-- method 16: EventStructures$Structure.closeGap(II)I -/
def M_eS_closeGap : ST := s_seq (s_ist 2 (i_and (i_loc 0) (i_sub (i_shl (i_const 1) (i_loc 1)) (i_const 1))))
 (s_retI (i_or (i_loc 2) (i_shl (i_shr (i_loc 0) (i_add (i_loc 1) (i_const 1))) (i_loc 1))))
theorem O_eS_closeGap : OKS M_eS_closeGap := OK_seq (OK_ist (OK_and (OK_iloc _) (OK_sub (OK_shl (OK_const _) (OK_iloc _)) (OK_const _)))) (OK_retI (OK_or (OK_iloc _) (OK_shl (OK_shr (OK_iloc _) (OK_add (OK_iloc _) (OK_const _))) (OK_iloc _))))
theorem K_eS_closeGap : M_eS_closeGap.1 (4, (kini 0), prog_6_method_6_code, some (.int), 3) 0 = some (18, false, []) := by decide +kernel
theorem C_eS_closeGap {d mc ms : Nat} {av : List Value} {h : FH} {Rr : Option Value → FH → Prop} (hl : (lg_sl av).length ≤ 3) (body : ∀ g : GE, g.1 = d → M_eS_closeGap.2 g (fun _ _ _ => False) Rr (eent 3 av) h (mc, ms)) : Call 16 d av h mc ms Rr := call_of2 (k := 16) (own := 4) ((mtb_0 (i := 16) (by decide)).trans rfl) (by decide +kernel) rfl O_eS_closeGap K_eS_closeGap hl body
/-- method 17: EventStructures.addCause(III)I -/
def M_eM_addCause : ST := s_seq (s_ast 4 (e_cV va_rf 9 (r_loc 0) (aI1 (i_loc 1) a_nil)))
 (s_seq (s_if (c_or (c_or (c_nul true (r_loc 4)) (c_not (c_b (e_cV Value.int 14 (r_loc 4) (aI1 (i_loc 2) a_nil))))) (c_not (c_b (e_cV Value.int 14 (r_loc 4) (aI1 (i_loc 3) a_nil))))) (s_retI (i_const (-1))))
 (s_seq (s_if (c_b (e_cS Value.int 19 (aI1 (e_cV Value.int 18 (r_loc 4) (aI1 (i_loc 2) a_nil)) (aI1 (i_loc 3) a_nil)))) (s_retI (i_const (-4))))
 (s_retI (e_cV Value.int 20 (r_loc 4) (aR1 (r_fld 4 2 (r_loc 4)) (aI1 (i_loc 2) (aI1 (i_loc 3) a_nil)))))))
theorem O_eM_addCause : OKS M_eM_addCause := OK_seq (OK_ast (OK_cV (OK_rloc _) (OK_aI (OK_iloc _) OK_anil))) (OK_seq (OK_sif (OK_cor (OK_cor (OK_nul (OK_rloc _)) (OK_not (OK_if (OK_cV (OK_rloc _) (OK_aI (OK_iloc _) OK_anil))))) (OK_not (OK_if (OK_cV (OK_rloc _) (OK_aI (OK_iloc _) OK_anil))))) (OK_retI (OK_const _))) (OK_seq (OK_sif (OK_if (OK_cS (OK_aI (OK_cV (OK_rloc _) (OK_aI (OK_iloc _) OK_anil)) (OK_aI (OK_iloc _) OK_anil)))) (OK_retI (OK_const _))) (OK_retI (OK_cV (OK_rloc _) (OK_aR (OK_rfld (OK_rloc _)) (OK_aI (OK_iloc _) (OK_aI (OK_iloc _) OK_anil)))))))
theorem K_eM_addCause : M_eM_addCause.1 (7, (kini 1), prog_1_method_4_code, some (.int), 5) 0 = some (61, false, []) := by decide +kernel
theorem C_eM_addCause {d mc ms : Nat} {av : List Value} {h : FH} {Rr : Option Value → FH → Prop} (hl : (lg_sl av).length ≤ 5) (body : ∀ g : GE, g.1 = d → M_eM_addCause.2 g (fun _ _ _ => False) Rr (eent 5 av) h (mc, ms)) : Call 17 d av h mc ms Rr := call_of2 (k := 17) (own := 7) ((mtb_0 (i := 17) (by decide)).trans rfl) (by decide +kernel) rfl O_eM_addCause K_eM_addCause hl body
/-- method 18: EventStructures$Structure.past(I)I -/
def M_eS_past : ST := s_seq (s_ist 2 (i_shl (i_const 1) (i_loc 1)))
 (s_seq (s_seq (s_ist 3 (i_const 0))
 (s_whl (c_icmp .lt (i_loc 3) (i_fld 4 5 (r_loc 0))) (s_seq (s_seq (s_ist 4 (i_const 0))
 (s_whl (c_icmp .lt (i_loc 4) (i_fld 4 5 (r_loc 0))) (s_seq (s_ist 2 (i_or (i_loc 2) (e_cond (c_b (e_cS Value.int 19 (aI1 (i_loc 2) (aI1 (i_loc 4) a_nil)))) (i_ald (r_fld 4 2 (r_loc 0)) (i_loc 4)) (i_const 0))))
 (s_inc 4 1))))
 (s_inc 3 1))))
 (s_retI (i_loc 2)))
theorem O_eS_past : OKS M_eS_past := OK_seq (OK_ist (OK_shl (OK_const _) (OK_iloc _))) (OK_seq (OK_seq (OK_ist (OK_const _)) (OK_whl (OK_icmp (OK_iloc _) (OK_ifld (OK_rloc _))) (OK_seq (OK_seq (OK_ist (OK_const _)) (OK_whl (OK_icmp (OK_iloc _) (OK_ifld (OK_rloc _))) (OK_seq (OK_ist (OK_or (OK_iloc _) (OK_econd (OK_if (OK_cS (OK_aI (OK_iloc _) (OK_aI (OK_iloc _) OK_anil)))) (OK_iald (OK_rfld (OK_rloc _)) (OK_iloc _)) (OK_const _)))) OK_inc))) OK_inc))) (OK_retI (OK_iloc _)))
theorem K_eS_past : M_eS_past.1 (4, (kini 1), prog_6_method_12_code, some (.int), 5) 0 = some (63, false, []) := by decide +kernel
theorem C_eS_past {d mc ms : Nat} {av : List Value} {h : FH} {Rr : Option Value → FH → Prop} (hl : (lg_sl av).length ≤ 5) (body : ∀ g : GE, g.1 = d → M_eS_past.2 g (fun _ _ _ => False) Rr (eent 5 av) h (mc, ms)) : Call 18 d av h mc ms Rr := call_of2 (k := 18) (own := 4) ((mtb_0 (i := 18) (by decide)).trans rfl) (by decide +kernel) rfl O_eS_past K_eS_past hl body
/-- method 19: EventStructures.contains(II)Z -/
def M_eM_contains : ST := s_retZ (e_cond (c_if .ne (i_and (i_shr (i_loc 0) (i_loc 1)) (i_const 1))) (i_const 1) (i_const 0))
theorem O_eM_contains : OKS M_eM_contains := OK_retZ (OK_econd (OK_if (OK_and (OK_shr (OK_iloc _) (OK_iloc _)) (OK_const _))) (OK_const _) (OK_const _))
theorem K_eM_contains : M_eM_contains.1 (7, (kini 0), prog_1_method_50_code, some (.boolean), 2) 0 = some (14, false, []) := by decide +kernel
theorem C_eM_contains {d mc ms : Nat} {av : List Value} {h : FH} {Rr : Option Value → FH → Prop} (hl : (lg_sl av).length ≤ 2) (body : ∀ g : GE, g.1 = d → M_eM_contains.2 g (fun _ _ _ => False) Rr (eent 2 av) h (mc, ms)) : Call 19 d av h mc ms Rr := call_of2 (k := 19) (own := 7) ((mtb_0 (i := 19) (by decide)).trans rfl) (by decide +kernel) rfl O_eM_contains K_eM_contains hl body
/-- method 20: EventStructures$Structure.join([III)I -/
def M_eS_join : ST := s_seq (s_ist 4 (e_cond (c_b (e_cS Value.int 19 (aI1 (i_ald (r_loc 1) (i_loc 3)) (aI1 (i_loc 2) a_nil)))) (i_const 0) (i_const 1)))
 (s_seq (s_opaI .ior (fun x y => x ||| y) (r_loc 1) (i_loc 3) (i_shl (i_const 1) (i_loc 2)))
 (s_seq (s_cV 12 (r_loc 0) a_nil)
 (s_retI (i_loc 4))))
theorem O_eS_join : OKS M_eS_join := OK_seq (OK_ist (OK_econd (OK_if (OK_cS (OK_aI (OK_iald (OK_rloc _) (OK_iloc _)) (OK_aI (OK_iloc _) OK_anil)))) (OK_const _) (OK_const _))) (OK_seq (OK_opaI (by simp) (fun K pc env st h bd x y X hd k => J_ior X hd k) (OK_rloc _) (OK_iloc _) (OK_shl (OK_const _) (OK_iloc _))) (OK_seq (OK_scV (OK_rloc _) OK_anil) (OK_retI (OK_iloc _))))
theorem K_eS_join : M_eS_join.1 (4, (kini 1), prog_6_method_7_code, some (.int), 5) 0 = some (33, false, []) := by decide +kernel
theorem C_eS_join {d mc ms : Nat} {av : List Value} {h : FH} {Rr : Option Value → FH → Prop} (hl : (lg_sl av).length ≤ 5) (body : ∀ g : GE, g.1 = d → M_eS_join.2 g (fun _ _ _ => False) Rr (eent 5 av) h (mc, ms)) : Call 20 d av h mc ms Rr := call_of2 (k := 20) (own := 4) ((mtb_0 (i := 20) (by decide)).trans rfl) (by decide +kernel) rfl O_eS_join K_eS_join hl body
/-- method 21: EventStructures.addConflict(III)I -/
def M_eM_addConflict : ST := s_seq (s_ast 4 (e_cV va_rf 9 (r_loc 0) (aI1 (i_loc 1) a_nil)))
 (s_seq (s_if (c_or (c_or (c_nul true (r_loc 4)) (c_not (c_b (e_cV Value.int 14 (r_loc 4) (aI1 (i_loc 2) a_nil))))) (c_not (c_b (e_cV Value.int 14 (r_loc 4) (aI1 (i_loc 3) a_nil))))) (s_retI (i_const (-1))))
 (s_seq (s_if (c_icmp .eq (i_loc 2) (i_loc 3)) (s_retI (i_const (-2))))
 (s_seq (s_pop (e_cV Value.int 20 (r_loc 4) (aR1 (r_fld 4 3 (r_loc 4)) (aI1 (i_loc 2) (aI1 (i_loc 3) a_nil)))))
 (s_retI (e_cV Value.int 20 (r_loc 4) (aR1 (r_fld 4 3 (r_loc 4)) (aI1 (i_loc 3) (aI1 (i_loc 2) a_nil))))))))
theorem O_eM_addConflict : OKS M_eM_addConflict := OK_seq (OK_ast (OK_cV (OK_rloc _) (OK_aI (OK_iloc _) OK_anil))) (OK_seq (OK_sif (OK_cor (OK_cor (OK_nul (OK_rloc _)) (OK_not (OK_if (OK_cV (OK_rloc _) (OK_aI (OK_iloc _) OK_anil))))) (OK_not (OK_if (OK_cV (OK_rloc _) (OK_aI (OK_iloc _) OK_anil))))) (OK_retI (OK_const _))) (OK_seq (OK_sif (OK_icmp (OK_iloc _) (OK_iloc _)) (OK_retI (OK_const _))) (OK_seq (OK_pop (OK_cV (OK_rloc _) (OK_aR (OK_rfld (OK_rloc _)) (OK_aI (OK_iloc _) (OK_aI (OK_iloc _) OK_anil))))) (OK_retI (OK_cV (OK_rloc _) (OK_aR (OK_rfld (OK_rloc _)) (OK_aI (OK_iloc _) (OK_aI (OK_iloc _) OK_anil))))))))
theorem K_eM_addConflict : M_eM_addConflict.1 (7, (kini 1), prog_1_method_5_code, some (.int), 5) 0 = some (66, false, []) := by decide +kernel
theorem C_eM_addConflict {d mc ms : Nat} {av : List Value} {h : FH} {Rr : Option Value → FH → Prop} (hl : (lg_sl av).length ≤ 5) (body : ∀ g : GE, g.1 = d → M_eM_addConflict.2 g (fun _ _ _ => False) Rr (eent 5 av) h (mc, ms)) : Call 21 d av h mc ms Rr := call_of2 (k := 21) (own := 7) ((mtb_0 (i := 21) (by decide)).trans rfl) (by decide +kernel) rfl O_eM_addConflict K_eM_addConflict hl body
/-- method 22: EventStructures.setLabel(III)I -/
def M_eM_setLabel : ST := s_seq (s_ast 4 (e_cV va_rf 9 (r_loc 0) (aI1 (i_loc 1) a_nil)))
 (s_seq (s_if (c_or (c_nul true (r_loc 4)) (c_not (c_b (e_cV Value.int 14 (r_loc 4) (aI1 (i_loc 2) a_nil))))) (s_retI (i_const (-1))))
 (s_seq (s_if (c_not (c_b (e_cS Value.int 10 (aI1 (i_loc 3) a_nil)))) (s_retI (i_const (-2))))
 (s_retI (e_cV Value.int 23 (r_loc 4) (aI1 (i_loc 2) (aI1 (i_loc 3) a_nil))))))
theorem O_eM_setLabel : OKS M_eM_setLabel := OK_seq (OK_ast (OK_cV (OK_rloc _) (OK_aI (OK_iloc _) OK_anil))) (OK_seq (OK_sif (OK_cor (OK_nul (OK_rloc _)) (OK_not (OK_if (OK_cV (OK_rloc _) (OK_aI (OK_iloc _) OK_anil))))) (OK_retI (OK_const _))) (OK_seq (OK_sif (OK_not (OK_if (OK_cS (OK_aI (OK_iloc _) OK_anil)))) (OK_retI (OK_const _))) (OK_retI (OK_cV (OK_rloc _) (OK_aI (OK_iloc _) (OK_aI (OK_iloc _) OK_anil))))))
theorem K_eM_setLabel : M_eM_setLabel.1 (7, (kini 1), prog_1_method_6_code, some (.int), 5) 0 = some (41, false, []) := by decide +kernel
theorem C_eM_setLabel {d mc ms : Nat} {av : List Value} {h : FH} {Rr : Option Value → FH → Prop} (hl : (lg_sl av).length ≤ 5) (body : ∀ g : GE, g.1 = d → M_eM_setLabel.2 g (fun _ _ _ => False) Rr (eent 5 av) h (mc, ms)) : Call 22 d av h mc ms Rr := call_of2 (k := 22) (own := 7) ((mtb_0 (i := 22) (by decide)).trans rfl) (by decide +kernel) rfl O_eM_setLabel K_eM_setLabel hl body
/-- method 23: EventStructures$Structure.relabel(II)I -/
def M_eS_relabel : ST := s_seq (s_ist 3 (i_ald (r_fld 4 0 (r_loc 0)) (i_loc 1)))
 (s_seq (s_iast (r_fld 4 0 (r_loc 0)) (i_loc 1) (i_loc 2))
 (s_seq (s_cV 12 (r_loc 0) a_nil)
 (s_retI (i_loc 3))))
theorem O_eS_relabel : OKS M_eS_relabel := OK_seq (OK_ist (OK_iald (OK_rfld (OK_rloc _)) (OK_iloc _))) (OK_seq (OK_siast (OK_rfld (OK_rloc _)) (OK_iloc _) (OK_iloc _)) (OK_seq (OK_scV (OK_rloc _) OK_anil) (OK_retI (OK_iloc _))))
theorem K_eS_relabel : M_eS_relabel.1 (4, (kini 1), prog_6_method_8_code, some (.int), 4) 0 = some (20, false, []) := by decide +kernel
theorem C_eS_relabel {d mc ms : Nat} {av : List Value} {h : FH} {Rr : Option Value → FH → Prop} (hl : (lg_sl av).length ≤ 4) (body : ∀ g : GE, g.1 = d → M_eS_relabel.2 g (fun _ _ _ => False) Rr (eent 4 av) h (mc, ms)) : Call 23 d av h mc ms Rr := call_of2 (k := 23) (own := 4) ((mtb_0 (i := 23) (by decide)).trans rfl) (by decide +kernel) rfl O_eS_relabel K_eS_relabel hl body
/-- method 24: EventStructures.clear(I)I -/
def M_eM_clear : ST := s_seq (s_ast 2 (e_cV va_rf 9 (r_loc 0) (aI1 (i_loc 1) a_nil)))
 (s_seq (s_if (c_nul true (r_loc 2)) (s_retI (i_const (-1))))
 (s_seq (s_ist 3 (i_fld 4 5 (r_loc 2)))
 (s_seq (s_cV 25 (r_loc 2) a_nil)
 (s_retI (i_loc 3)))))
theorem O_eM_clear : OKS M_eM_clear := OK_seq (OK_ast (OK_cV (OK_rloc _) (OK_aI (OK_iloc _) OK_anil))) (OK_seq (OK_sif (OK_nul (OK_rloc _)) (OK_retI (OK_const _))) (OK_seq (OK_ist (OK_ifld (OK_rloc _))) (OK_seq (OK_scV (OK_rloc _) OK_anil) (OK_retI (OK_iloc _)))))
theorem K_eM_clear : M_eM_clear.1 (7, (kini 1), prog_1_method_7_code, some (.int), 4) 0 = some (23, false, []) := by decide +kernel
theorem C_eM_clear {d mc ms : Nat} {av : List Value} {h : FH} {Rr : Option Value → FH → Prop} (hl : (lg_sl av).length ≤ 4) (body : ∀ g : GE, g.1 = d → M_eM_clear.2 g (fun _ _ _ => False) Rr (eent 4 av) h (mc, ms)) : Call 24 d av h mc ms Rr := call_of2 (k := 24) (own := 7) ((mtb_0 (i := 24) (by decide)).trans rfl) (by decide +kernel) rfl O_eM_clear K_eM_clear hl body
/-- method 25: EventStructures$Structure.empty()V -/
def M_eS_empty : ST := s_seq (s_putI 4 5 (r_loc 0) (i_const 0))
 (s_seq (s_cV 12 (r_loc 0) a_nil)
 s_ret)
theorem O_eS_empty : OKS M_eS_empty := OK_seq (OK_putI (OK_rloc _) (OK_const _)) (OK_seq (OK_scV (OK_rloc _) OK_anil) OK_ret)
theorem K_eS_empty : M_eS_empty.1 (4, (kini 1), prog_6_method_9_code, none, 1) 0 = some (10, false, []) := by decide +kernel
theorem C_eS_empty {d mc ms : Nat} {av : List Value} {h : FH} {Rr : Option Value → FH → Prop} (hl : (lg_sl av).length ≤ 1) (body : ∀ g : GE, g.1 = d → M_eS_empty.2 g (fun _ _ _ => False) Rr (eent 1 av) h (mc, ms)) : Call 25 d av h mc ms Rr := call_of2 (k := 25) (own := 4) ((mtb_0 (i := 25) (by decide)).trans rfl) (by decide +kernel) rfl O_eS_empty K_eS_empty hl body
/-- method 26: EventStructures.copy(II)I -/
def M_eM_copy : ST := s_seq (s_ast 3 (e_cV va_rf 9 (r_loc 0) (aI1 (i_loc 1) a_nil)))
 (s_seq (s_ast 4 (e_cV va_rf 9 (r_loc 0) (aI1 (i_loc 2) a_nil)))
 (s_seq (s_if (c_or (c_nul true (r_loc 3)) (c_nul true (r_loc 4))) (s_retI (i_const (-1))))
 (s_seq (s_cV 27 (r_loc 4) (aR1 (r_loc 3) a_nil))
 (s_retI (i_fld 4 5 (r_loc 4))))))
theorem O_eM_copy : OKS M_eM_copy := OK_seq (OK_ast (OK_cV (OK_rloc _) (OK_aI (OK_iloc _) OK_anil))) (OK_seq (OK_ast (OK_cV (OK_rloc _) (OK_aI (OK_iloc _) OK_anil))) (OK_seq (OK_sif (OK_cor (OK_nul (OK_rloc _)) (OK_nul (OK_rloc _))) (OK_retI (OK_const _))) (OK_seq (OK_scV (OK_rloc _) (OK_aR (OK_rloc _) OK_anil)) (OK_retI (OK_ifld (OK_rloc _))))))
theorem K_eM_copy : M_eM_copy.1 (7, (kini 1), prog_1_method_8_code, some (.int), 5) 0 = some (36, false, []) := by decide +kernel
theorem C_eM_copy {d mc ms : Nat} {av : List Value} {h : FH} {Rr : Option Value → FH → Prop} (hl : (lg_sl av).length ≤ 5) (body : ∀ g : GE, g.1 = d → M_eM_copy.2 g (fun _ _ _ => False) Rr (eent 5 av) h (mc, ms)) : Call 26 d av h mc ms Rr := call_of2 (k := 26) (own := 7) ((mtb_0 (i := 26) (by decide)).trans rfl) (by decide +kernel) rfl O_eM_copy K_eM_copy hl body
/-- method 27: EventStructures$Structure.become(LEventStructures$Structure;)V -/
def M_eS_become : ST := s_seq (s_putI 4 5 (r_loc 0) (i_fld 4 5 (r_loc 1)))
 (s_seq (s_seq (s_ist 2 (i_const 0))
 (s_whl (c_icmp .lt (i_loc 2) (i_const 8)) (s_seq (s_seq (s_iast (r_fld 4 0 (r_loc 0)) (i_loc 2) (i_ald (r_fld 4 0 (r_loc 1)) (i_loc 2)))
 (s_seq (s_iast (r_fld 4 1 (r_loc 0)) (i_loc 2) (i_ald (r_fld 4 1 (r_loc 1)) (i_loc 2)))
 (s_seq (s_iast (r_fld 4 2 (r_loc 0)) (i_loc 2) (i_ald (r_fld 4 2 (r_loc 1)) (i_loc 2)))
 (s_iast (r_fld 4 3 (r_loc 0)) (i_loc 2) (i_ald (r_fld 4 3 (r_loc 1)) (i_loc 2))))))
 (s_inc 2 1))))
 (s_seq (s_cV 12 (r_loc 0) a_nil)
 s_ret))
theorem O_eS_become : OKS M_eS_become := OK_seq (OK_putI (OK_rloc _) (OK_ifld (OK_rloc _))) (OK_seq (OK_seq (OK_ist (OK_const _)) (OK_whl (OK_icmp (OK_iloc _) (OK_const _)) (OK_seq (OK_seq (OK_siast (OK_rfld (OK_rloc _)) (OK_iloc _) (OK_iald (OK_rfld (OK_rloc _)) (OK_iloc _))) (OK_seq (OK_siast (OK_rfld (OK_rloc _)) (OK_iloc _) (OK_iald (OK_rfld (OK_rloc _)) (OK_iloc _))) (OK_seq (OK_siast (OK_rfld (OK_rloc _)) (OK_iloc _) (OK_iald (OK_rfld (OK_rloc _)) (OK_iloc _))) (OK_siast (OK_rfld (OK_rloc _)) (OK_iloc _) (OK_iald (OK_rfld (OK_rloc _)) (OK_iloc _)))))) OK_inc))) (OK_seq (OK_scV (OK_rloc _) OK_anil) OK_ret))
theorem K_eS_become : M_eS_become.1 (4, (kini 1), prog_6_method_10_code, none, 3) 0 = some (75, false, []) := by decide +kernel
theorem C_eS_become {d mc ms : Nat} {av : List Value} {h : FH} {Rr : Option Value → FH → Prop} (hl : (lg_sl av).length ≤ 3) (body : ∀ g : GE, g.1 = d → M_eS_become.2 g (fun _ _ _ => False) Rr (eent 3 av) h (mc, ms)) : Call 27 d av h mc ms Rr := call_of2 (k := 27) (own := 4) ((mtb_0 (i := 27) (by decide)).trans rfl) (by decide +kernel) rfl O_eS_become K_eS_become hl body
/-- method 28: EventStructures.eventCount(I)I -/
def M_eM_eventCount : ST := s_seq (s_ast 2 (e_cV va_rf 9 (r_loc 0) (aI1 (i_loc 1) a_nil)))
 (s_retI (e_cond (c_nul true (r_loc 2)) (i_const (-1)) (i_fld 4 5 (r_loc 2))))
theorem O_eM_eventCount : OKS M_eM_eventCount := OK_seq (OK_ast (OK_cV (OK_rloc _) (OK_aI (OK_iloc _) OK_anil))) (OK_retI (OK_econd (OK_nul (OK_rloc _)) (OK_const _) (OK_ifld (OK_rloc _))))
theorem K_eM_eventCount : M_eM_eventCount.1 (7, (kini 1), prog_1_method_9_code, some (.int), 3) 0 = some (19, false, []) := by decide +kernel
theorem C_eM_eventCount {d mc ms : Nat} {av : List Value} {h : FH} {Rr : Option Value → FH → Prop} (hl : (lg_sl av).length ≤ 3) (body : ∀ g : GE, g.1 = d → M_eM_eventCount.2 g (fun _ _ _ => False) Rr (eent 3 av) h (mc, ms)) : Call 28 d av h mc ms Rr := call_of2 (k := 28) (own := 7) ((mtb_0 (i := 28) (by decide)).trans rfl) (by decide +kernel) rfl O_eM_eventCount K_eM_eventCount hl body
/-- method 29: EventStructures.label(II)I -/
def M_eM_label : ST := s_seq (s_ast 3 (e_cV va_rf 9 (r_loc 0) (aI1 (i_loc 1) a_nil)))
 (s_seq (s_if (c_or (c_nul true (r_loc 3)) (c_not (c_b (e_cV Value.int 14 (r_loc 3) (aI1 (i_loc 2) a_nil))))) (s_retI (i_const (-1))))
 (s_retI (i_ald (r_fld 4 0 (r_loc 3)) (i_loc 2))))
theorem O_eM_label : OKS M_eM_label := OK_seq (OK_ast (OK_cV (OK_rloc _) (OK_aI (OK_iloc _) OK_anil))) (OK_seq (OK_sif (OK_cor (OK_nul (OK_rloc _)) (OK_not (OK_if (OK_cV (OK_rloc _) (OK_aI (OK_iloc _) OK_anil))))) (OK_retI (OK_const _))) (OK_retI (OK_iald (OK_rfld (OK_rloc _)) (OK_iloc _))))
theorem K_eM_label : M_eM_label.1 (7, (kini 1), prog_1_method_10_code, some (.int), 4) 0 = some (27, false, []) := by decide +kernel
theorem C_eM_label {d mc ms : Nat} {av : List Value} {h : FH} {Rr : Option Value → FH → Prop} (hl : (lg_sl av).length ≤ 4) (body : ∀ g : GE, g.1 = d → M_eM_label.2 g (fun _ _ _ => False) Rr (eent 4 av) h (mc, ms)) : Call 29 d av h mc ms Rr := call_of2 (k := 29) (own := 7) ((mtb_0 (i := 29) (by decide)).trans rfl) (by decide +kernel) rfl O_eM_label K_eM_label hl body
/-- method 30: EventStructures.isBelow(III)I -/
def M_eM_isBelow : ST := s_seq (s_ast 4 (e_cV va_rf 31 (r_loc 0) (aI1 (i_loc 1) a_nil)))
 (s_seq (s_if (c_or (c_or (c_nul true (r_loc 4)) (c_not (c_b (e_cV Value.int 14 (r_fld 3 0 (r_loc 4)) (aI1 (i_loc 2) a_nil))))) (c_not (c_b (e_cV Value.int 14 (r_fld 3 0 (r_loc 4)) (aI1 (i_loc 3) a_nil))))) (s_retI (i_const (-1))))
 (s_retI (e_cond (c_and (c_icmp .ne (i_loc 2) (i_loc 3)) (c_b (e_cS Value.int 19 (aI1 (i_ald (r_fld 3 1 (r_loc 4)) (i_loc 3)) (aI1 (i_loc 2) a_nil))))) (i_const 1) (i_const 0))))
theorem O_eM_isBelow : OKS M_eM_isBelow := OK_seq (OK_ast (OK_cV (OK_rloc _) (OK_aI (OK_iloc _) OK_anil))) (OK_seq (OK_sif (OK_cor (OK_cor (OK_nul (OK_rloc _)) (OK_not (OK_if (OK_cV (OK_rfld (OK_rloc _)) (OK_aI (OK_iloc _) OK_anil))))) (OK_not (OK_if (OK_cV (OK_rfld (OK_rloc _)) (OK_aI (OK_iloc _) OK_anil))))) (OK_retI (OK_const _))) (OK_retI (OK_econd (OK_cand (OK_icmp (OK_iloc _) (OK_iloc _)) (OK_if (OK_cS (OK_aI (OK_iald (OK_rfld (OK_rloc _)) (OK_iloc _)) (OK_aI (OK_iloc _) OK_anil))))) (OK_const _) (OK_const _))))
theorem K_eM_isBelow : M_eM_isBelow.1 (7, (kini 1), prog_1_method_11_code, some (.int), 5) 0 = some (63, false, []) := by decide +kernel
theorem C_eM_isBelow {d mc ms : Nat} {av : List Value} {h : FH} {Rr : Option Value → FH → Prop} (hl : (lg_sl av).length ≤ 5) (body : ∀ g : GE, g.1 = d → M_eM_isBelow.2 g (fun _ _ _ => False) Rr (eent 5 av) h (mc, ms)) : Call 30 d av h mc ms Rr := call_of2 (k := 30) (own := 7) ((mtb_0 (i := 30) (by decide)).trans rfl) (by decide +kernel) rfl O_eM_isBelow K_eM_isBelow hl body
/-- method 31: EventStructures.spaceOf(I)LEventStructures$Space; -/
def M_eM_spaceOf : ST := s_seq (s_ast 2 (e_cond (c_if .eq (i_loc 1)) (r_fld 7 5 (r_loc 0)) (e_cond (c_icmp .eq (i_loc 1) (i_const 1)) (r_fld 7 6 (r_loc 0)) r_null)))
 (s_seq (s_if (c_nul false (r_loc 2)) (s_cV 32 (r_loc 2) a_nil))
 (s_retR (r_loc 2)))
theorem O_eM_spaceOf : OKS M_eM_spaceOf := OK_seq (OK_ast (OK_econd (OK_if (OK_iloc _)) (OK_rfld (OK_rloc _)) (OK_econd (OK_icmp (OK_iloc _) (OK_const _)) (OK_rfld (OK_rloc _)) OK_null))) (OK_seq (OK_sif (OK_nul (OK_rloc _)) (OK_scV (OK_rloc _) OK_anil)) (OK_retR (OK_rloc _)))
theorem K_eM_spaceOf : M_eM_spaceOf.1 (7, (kini 1), prog_1_method_46_code, some (.object "EventStructures$Space"), 3) 0 = some (35, false, []) := by decide +kernel
theorem C_eM_spaceOf {d mc ms : Nat} {av : List Value} {h : FH} {Rr : Option Value → FH → Prop} (hl : (lg_sl av).length ≤ 3) (body : ∀ g : GE, g.1 = d → M_eM_spaceOf.2 g (fun _ _ _ => False) Rr (eent 3 av) h (mc, ms)) : Call 31 d av h mc ms Rr := call_of2 (k := 31) (own := 7) ((mtb_0 (i := 31) (by decide)).trans rfl) (by decide +kernel) rfl O_eM_spaceOf K_eM_spaceOf hl body
/-- method 32: EventStructures$Space.refresh()V -/
def M_eP_refresh : ST := s_seq (s_if (c_icmp .eq (i_fld 3 7 (r_loc 0)) (i_fld 4 7 (r_fld 3 0 (r_loc 0)))) s_ret)
 (s_seq (s_putI 3 7 (r_loc 0) (i_fld 4 7 (r_fld 3 0 (r_loc 0))))
 (s_seq (s_seq (s_ist 1 (i_const 0))
 (s_whl (c_icmp .lt (i_loc 1) (i_fld 4 5 (r_fld 3 0 (r_loc 0)))) (s_seq (s_iast (r_fld 3 1 (r_loc 0)) (i_loc 1) (e_cV Value.int 18 (r_fld 3 0 (r_loc 0)) (aI1 (i_loc 1) a_nil)))
 (s_inc 1 1))))
 (s_seq (s_seq (s_ist 1 (i_const 0))
 (s_whl (c_icmp .lt (i_loc 1) (i_fld 4 5 (r_fld 3 0 (r_loc 0)))) (s_seq (s_iast (r_fld 3 2 (r_loc 0)) (i_loc 1) (e_cV Value.int 33 (r_loc 0) (aI1 (i_ald (r_fld 3 1 (r_loc 0)) (i_loc 1)) a_nil)))
 (s_inc 1 1))))
 (s_seq (s_seq (s_ist 1 (i_const 0))
 (s_whl (c_icmp .lt (i_loc 1) (i_const 256)) (s_seq (s_zast (r_fld 3 3 (r_loc 0)) (i_loc 1) (e_cV Value.int 34 (r_fld 3 0 (r_loc 0)) (aI1 (i_loc 1) a_nil)))
 (s_inc 1 1))))
 (s_seq (s_seq (s_ist 1 (i_const 0))
 (s_whl (c_icmp .lt (i_loc 1) (i_const 256)) (s_seq (s_iast (r_fld 3 4 (r_loc 0)) (i_loc 1) (e_cond (c_b (i_zald (r_fld 3 3 (r_loc 0)) (i_loc 1))) (e_cV Value.int 35 (r_loc 0) (aI1 (i_loc 1) a_nil)) (i_const 0)))
 (s_inc 1 1))))
 s_ret)))))
theorem O_eP_refresh : OKS M_eP_refresh := OK_seq (OK_sif (OK_icmp (OK_ifld (OK_rloc _)) (OK_ifld (OK_rfld (OK_rloc _)))) OK_ret) (OK_seq (OK_putI (OK_rloc _) (OK_ifld (OK_rfld (OK_rloc _)))) (OK_seq (OK_seq (OK_ist (OK_const _)) (OK_whl (OK_icmp (OK_iloc _) (OK_ifld (OK_rfld (OK_rloc _)))) (OK_seq (OK_siast (OK_rfld (OK_rloc _)) (OK_iloc _) (OK_cV (OK_rfld (OK_rloc _)) (OK_aI (OK_iloc _) OK_anil))) OK_inc))) (OK_seq (OK_seq (OK_ist (OK_const _)) (OK_whl (OK_icmp (OK_iloc _) (OK_ifld (OK_rfld (OK_rloc _)))) (OK_seq (OK_siast (OK_rfld (OK_rloc _)) (OK_iloc _) (OK_cV (OK_rloc _) (OK_aI (OK_iald (OK_rfld (OK_rloc _)) (OK_iloc _)) OK_anil))) OK_inc))) (OK_seq (OK_seq (OK_ist (OK_const _)) (OK_whl (OK_icmp (OK_iloc _) (OK_const _)) (OK_seq (OK_szast (OK_rfld (OK_rloc _)) (OK_iloc _) (OK_cV (OK_rfld (OK_rloc _)) (OK_aI (OK_iloc _) OK_anil))) OK_inc))) (OK_seq (OK_seq (OK_ist (OK_const _)) (OK_whl (OK_icmp (OK_iloc _) (OK_const _)) (OK_seq (OK_siast (OK_rfld (OK_rloc _)) (OK_iloc _) (OK_econd (OK_if (OK_zald (OK_rfld (OK_rloc _)) (OK_iloc _))) (OK_cV (OK_rloc _) (OK_aI (OK_iloc _) OK_anil)) (OK_const _))) OK_inc))) OK_ret)))))
theorem K_eP_refresh : M_eP_refresh.1 (3, (kini 1), prog_5_method_2_code, none, 2) 0 = some (163, false, []) := by decide +kernel
theorem C_eP_refresh {d mc ms : Nat} {av : List Value} {h : FH} {Rr : Option Value → FH → Prop} (hl : (lg_sl av).length ≤ 2) (body : ∀ g : GE, g.1 = d → M_eP_refresh.2 g (fun _ _ _ => False) Rr (eent 2 av) h (mc, ms)) : Call 32 d av h mc ms Rr := call_of2 (k := 32) (own := 3) ((mtb_0 (i := 32) (by decide)).trans rfl) (by decide +kernel) rfl O_eP_refresh K_eP_refresh hl body
/-- method 33: EventStructures$Space.findClashes(I)I -/
def M_eP_findClashes : ST := s_seq (s_ist 2 (i_const 0))
 (s_seq (s_seq (s_ist 3 (i_const 0))
 (s_whl (c_icmp .lt (i_loc 3) (i_fld 4 5 (r_fld 3 0 (r_loc 0)))) (s_seq (s_ist 2 (i_or (i_loc 2) (e_cond (c_b (e_cS Value.int 19 (aI1 (i_loc 1) (aI1 (i_loc 3) a_nil)))) (i_ald (r_fld 4 3 (r_fld 3 0 (r_loc 0))) (i_loc 3)) (i_const 0))))
 (s_inc 3 1))))
 (s_seq (s_ist 3 (i_const 0))
 (s_seq (s_seq (s_ist 4 (i_const 0))
 (s_whl (c_icmp .lt (i_loc 4) (i_fld 4 5 (r_fld 3 0 (r_loc 0)))) (s_seq (s_ist 3 (i_or (i_loc 3) (e_cond (c_if .ne (i_and (i_ald (r_fld 3 1 (r_loc 0)) (i_loc 4)) (i_loc 2))) (i_shl (i_const 1) (i_loc 4)) (i_const 0))))
 (s_inc 4 1))))
 (s_retI (i_loc 3)))))
theorem O_eP_findClashes : OKS M_eP_findClashes := OK_seq (OK_ist (OK_const _)) (OK_seq (OK_seq (OK_ist (OK_const _)) (OK_whl (OK_icmp (OK_iloc _) (OK_ifld (OK_rfld (OK_rloc _)))) (OK_seq (OK_ist (OK_or (OK_iloc _) (OK_econd (OK_if (OK_cS (OK_aI (OK_iloc _) (OK_aI (OK_iloc _) OK_anil)))) (OK_iald (OK_rfld (OK_rfld (OK_rloc _))) (OK_iloc _)) (OK_const _)))) OK_inc))) (OK_seq (OK_ist (OK_const _)) (OK_seq (OK_seq (OK_ist (OK_const _)) (OK_whl (OK_icmp (OK_iloc _) (OK_ifld (OK_rfld (OK_rloc _)))) (OK_seq (OK_ist (OK_or (OK_iloc _) (OK_econd (OK_if (OK_and (OK_iald (OK_rfld (OK_rloc _)) (OK_iloc _)) (OK_iloc _))) (OK_shl (OK_const _) (OK_iloc _)) (OK_const _)))) OK_inc))) (OK_retI (OK_iloc _)))))
theorem K_eP_findClashes : M_eP_findClashes.1 (3, (kini 1), prog_5_method_3_code, some (.int), 5) 0 = some (93, false, []) := by decide +kernel
theorem C_eP_findClashes {d mc ms : Nat} {av : List Value} {h : FH} {Rr : Option Value → FH → Prop} (hl : (lg_sl av).length ≤ 5) (body : ∀ g : GE, g.1 = d → M_eP_findClashes.2 g (fun _ _ _ => False) Rr (eent 5 av) h (mc, ms)) : Call 33 d av h mc ms Rr := call_of2 (k := 33) (own := 3) ((mtb_0 (i := 33) (by decide)).trans rfl) (by decide +kernel) rfl O_eP_findClashes K_eP_findClashes hl body
/-- method 34: EventStructures$Structure.holds(I)Z -/
def M_eS_holds : ST := s_seq (s_if (c_or (c_if .lt (i_loc 1)) (c_if .ne (i_shr (i_loc 1) (i_fld 4 5 (r_loc 0))))) (s_retZ (i_const 0)))
 (s_seq (s_seq (s_ist 2 (i_const 0))
 (s_whl (c_icmp .lt (i_loc 2) (i_fld 4 5 (r_loc 0))) (s_seq (s_if (c_and (c_b (e_cS Value.int 19 (aI1 (i_loc 1) (aI1 (i_loc 2) a_nil)))) (c_or (c_if .ne (i_and (i_ald (r_fld 4 2 (r_loc 0)) (i_loc 2)) (i_xor (i_loc 1) (i_const (-1))))) (c_if .ne (i_and (i_ald (r_fld 4 3 (r_loc 0)) (i_loc 2)) (i_loc 1))))) (s_retZ (i_const 0)))
 (s_inc 2 1))))
 (s_retZ (i_const 1)))
theorem O_eS_holds : OKS M_eS_holds := OK_seq (OK_sif (OK_cor (OK_if (OK_iloc _)) (OK_if (OK_shr (OK_iloc _) (OK_ifld (OK_rloc _))))) (OK_retZ (OK_const _))) (OK_seq (OK_seq (OK_ist (OK_const _)) (OK_whl (OK_icmp (OK_iloc _) (OK_ifld (OK_rloc _))) (OK_seq (OK_sif (OK_cand (OK_if (OK_cS (OK_aI (OK_iloc _) (OK_aI (OK_iloc _) OK_anil)))) (OK_cor (OK_if (OK_and (OK_iald (OK_rfld (OK_rloc _)) (OK_iloc _)) (OK_xor (OK_iloc _) (OK_const _)))) (OK_if (OK_and (OK_iald (OK_rfld (OK_rloc _)) (OK_iloc _)) (OK_iloc _))))) (OK_retZ (OK_const _))) OK_inc))) (OK_retZ (OK_const _)))
theorem K_eS_holds : M_eS_holds.1 (4, (kini 1), prog_6_method_13_code, some (.boolean), 3) 0 = some (67, false, []) := by decide +kernel
theorem C_eS_holds {d mc ms : Nat} {av : List Value} {h : FH} {Rr : Option Value → FH → Prop} (hl : (lg_sl av).length ≤ 3) (body : ∀ g : GE, g.1 = d → M_eS_holds.2 g (fun _ _ _ => False) Rr (eent 3 av) h (mc, ms)) : Call 34 d av h mc ms Rr := call_of2 (k := 34) (own := 4) ((mtb_0 (i := 34) (by decide)).trans rfl) (by decide +kernel) rfl O_eS_holds K_eS_holds hl body
/-- method 35: EventStructures$Space.findOpen(I)I -/
def M_eP_findOpen : ST := s_seq (s_ist 2 (i_const 0))
 (s_seq (s_seq (s_ist 3 (i_const 0))
 (s_whl (c_icmp .lt (i_loc 3) (i_fld 4 5 (r_fld 3 0 (r_loc 0)))) (s_seq (s_ist 2 (i_or (i_loc 2) (e_cond (c_and (c_not (c_b (e_cS Value.int 19 (aI1 (i_loc 1) (aI1 (i_loc 3) a_nil))))) (c_b (i_zald (r_fld 3 3 (r_loc 0)) (i_or (i_loc 1) (i_shl (i_const 1) (i_loc 3)))))) (i_shl (i_const 1) (i_loc 3)) (i_const 0))))
 (s_inc 3 1))))
 (s_retI (i_loc 2)))
theorem O_eP_findOpen : OKS M_eP_findOpen := OK_seq (OK_ist (OK_const _)) (OK_seq (OK_seq (OK_ist (OK_const _)) (OK_whl (OK_icmp (OK_iloc _) (OK_ifld (OK_rfld (OK_rloc _)))) (OK_seq (OK_ist (OK_or (OK_iloc _) (OK_econd (OK_cand (OK_not (OK_if (OK_cS (OK_aI (OK_iloc _) (OK_aI (OK_iloc _) OK_anil))))) (OK_if (OK_zald (OK_rfld (OK_rloc _)) (OK_or (OK_iloc _) (OK_shl (OK_const _) (OK_iloc _)))))) (OK_shl (OK_const _) (OK_iloc _)) (OK_const _)))) OK_inc))) (OK_retI (OK_iloc _)))
theorem K_eP_findOpen : M_eP_findOpen.1 (3, (kini 1), prog_5_method_4_code, some (.int), 4) 0 = some (54, false, []) := by decide +kernel
theorem C_eP_findOpen {d mc ms : Nat} {av : List Value} {h : FH} {Rr : Option Value → FH → Prop} (hl : (lg_sl av).length ≤ 4) (body : ∀ g : GE, g.1 = d → M_eP_findOpen.2 g (fun _ _ _ => False) Rr (eent 4 av) h (mc, ms)) : Call 35 d av h mc ms Rr := call_of2 (k := 35) (own := 3) ((mtb_0 (i := 35) (by decide)).trans rfl) (by decide +kernel) rfl O_eP_findOpen K_eP_findOpen hl body
/-- method 36: EventStructures.areInConflict(III)I -/
def M_eM_areInConflict : ST := s_seq (s_ast 4 (e_cV va_rf 31 (r_loc 0) (aI1 (i_loc 1) a_nil)))
 (s_seq (s_if (c_or (c_or (c_nul true (r_loc 4)) (c_not (c_b (e_cV Value.int 14 (r_fld 3 0 (r_loc 4)) (aI1 (i_loc 2) a_nil))))) (c_not (c_b (e_cV Value.int 14 (r_fld 3 0 (r_loc 4)) (aI1 (i_loc 3) a_nil))))) (s_retI (i_const (-1))))
 (s_retI (e_cond (c_b (e_cS Value.int 19 (aI1 (i_ald (r_fld 3 2 (r_loc 4)) (i_loc 2)) (aI1 (i_loc 3) a_nil)))) (i_const 1) (i_const 0))))
theorem O_eM_areInConflict : OKS M_eM_areInConflict := OK_seq (OK_ast (OK_cV (OK_rloc _) (OK_aI (OK_iloc _) OK_anil))) (OK_seq (OK_sif (OK_cor (OK_cor (OK_nul (OK_rloc _)) (OK_not (OK_if (OK_cV (OK_rfld (OK_rloc _)) (OK_aI (OK_iloc _) OK_anil))))) (OK_not (OK_if (OK_cV (OK_rfld (OK_rloc _)) (OK_aI (OK_iloc _) OK_anil))))) (OK_retI (OK_const _))) (OK_retI (OK_econd (OK_if (OK_cS (OK_aI (OK_iald (OK_rfld (OK_rloc _)) (OK_iloc _)) (OK_aI (OK_iloc _) OK_anil)))) (OK_const _) (OK_const _))))
theorem K_eM_areInConflict : M_eM_areInConflict.1 (7, (kini 1), prog_1_method_12_code, some (.int), 5) 0 = some (58, false, []) := by decide +kernel
theorem C_eM_areInConflict {d mc ms : Nat} {av : List Value} {h : FH} {Rr : Option Value → FH → Prop} (hl : (lg_sl av).length ≤ 5) (body : ∀ g : GE, g.1 = d → M_eM_areInConflict.2 g (fun _ _ _ => False) Rr (eent 5 av) h (mc, ms)) : Call 36 d av h mc ms Rr := call_of2 (k := 36) (own := 7) ((mtb_0 (i := 36) (by decide)).trans rfl) (by decide +kernel) rfl O_eM_areInConflict K_eM_areInConflict hl body
/-- method 37: EventStructures.history(II)I -/
def M_eM_history : ST := s_seq (s_ast 3 (e_cV va_rf 31 (r_loc 0) (aI1 (i_loc 1) a_nil)))
 (s_seq (s_if (c_or (c_nul true (r_loc 3)) (c_not (c_b (e_cV Value.int 14 (r_fld 3 0 (r_loc 3)) (aI1 (i_loc 2) a_nil))))) (s_retI (i_const (-1))))
 (s_retI (i_ald (r_fld 3 1 (r_loc 3)) (i_loc 2))))
theorem O_eM_history : OKS M_eM_history := OK_seq (OK_ast (OK_cV (OK_rloc _) (OK_aI (OK_iloc _) OK_anil))) (OK_seq (OK_sif (OK_cor (OK_nul (OK_rloc _)) (OK_not (OK_if (OK_cV (OK_rfld (OK_rloc _)) (OK_aI (OK_iloc _) OK_anil))))) (OK_retI (OK_const _))) (OK_retI (OK_iald (OK_rfld (OK_rloc _)) (OK_iloc _))))
theorem K_eM_history : M_eM_history.1 (7, (kini 1), prog_1_method_13_code, some (.int), 4) 0 = some (30, false, []) := by decide +kernel
theorem C_eM_history {d mc ms : Nat} {av : List Value} {h : FH} {Rr : Option Value → FH → Prop} (hl : (lg_sl av).length ≤ 4) (body : ∀ g : GE, g.1 = d → M_eM_history.2 g (fun _ _ _ => False) Rr (eent 4 av) h (mc, ms)) : Call 37 d av h mc ms Rr := call_of2 (k := 37) (own := 7) ((mtb_0 (i := 37) (by decide)).trans rfl) (by decide +kernel) rfl O_eM_history K_eM_history hl body
/-- method 38: EventStructures.concurrentPairs(I)I -/
def M_eM_concurrentPairs : ST := s_seq (s_ast 2 (e_cV va_rf 31 (r_loc 0) (aI1 (i_loc 1) a_nil)))
 (s_retI (e_cond (c_nul true (r_loc 2)) (i_const (-1)) (e_cV Value.int 39 (r_loc 2) a_nil)))
theorem O_eM_concurrentPairs : OKS M_eM_concurrentPairs := OK_seq (OK_ast (OK_cV (OK_rloc _) (OK_aI (OK_iloc _) OK_anil))) (OK_retI (OK_econd (OK_nul (OK_rloc _)) (OK_const _) (OK_cV (OK_rloc _) OK_anil)))
theorem K_eM_concurrentPairs : M_eM_concurrentPairs.1 (7, (kini 1), prog_1_method_14_code, some (.int), 3) 0 = some (19, false, []) := by decide +kernel
theorem C_eM_concurrentPairs {d mc ms : Nat} {av : List Value} {h : FH} {Rr : Option Value → FH → Prop} (hl : (lg_sl av).length ≤ 3) (body : ∀ g : GE, g.1 = d → M_eM_concurrentPairs.2 g (fun _ _ _ => False) Rr (eent 3 av) h (mc, ms)) : Call 38 d av h mc ms Rr := call_of2 (k := 38) (own := 7) ((mtb_0 (i := 38) (by decide)).trans rfl) (by decide +kernel) rfl O_eM_concurrentPairs K_eM_concurrentPairs hl body
/-- method 39: EventStructures$Space.countConcurrentPairs()I -/
def M_eP_countConcurrentPairs : ST := s_seq (s_ist 1 (i_const 0))
 (s_seq (s_seq (s_ist 2 (i_const 0))
 (s_whl (c_icmp .lt (i_loc 2) (i_fld 4 5 (r_fld 3 0 (r_loc 0)))) (s_seq (s_seq (s_ist 3 (i_const 0))
 (s_whl (c_icmp .lt (i_loc 3) (i_loc 2)) (s_seq (s_seq (s_ist 4 (e_cond (c_or (c_b (e_cS Value.int 19 (aI1 (i_ald (r_fld 3 1 (r_loc 0)) (i_loc 2)) (aI1 (i_loc 3) a_nil)))) (c_b (e_cS Value.int 19 (aI1 (i_ald (r_fld 3 1 (r_loc 0)) (i_loc 3)) (aI1 (i_loc 2) a_nil))))) (i_const 1) (i_const 0)))
 (s_ist 1 (i_add (i_loc 1) (e_cond (c_or (c_b (i_loc 4)) (c_b (e_cS Value.int 19 (aI1 (i_ald (r_fld 3 2 (r_loc 0)) (i_loc 2)) (aI1 (i_loc 3) a_nil))))) (i_const 0) (i_const 1)))))
 (s_inc 3 1))))
 (s_inc 2 1))))
 (s_retI (i_loc 1)))
theorem O_eP_countConcurrentPairs : OKS M_eP_countConcurrentPairs := OK_seq (OK_ist (OK_const _)) (OK_seq (OK_seq (OK_ist (OK_const _)) (OK_whl (OK_icmp (OK_iloc _) (OK_ifld (OK_rfld (OK_rloc _)))) (OK_seq (OK_seq (OK_ist (OK_const _)) (OK_whl (OK_icmp (OK_iloc _) (OK_iloc _)) (OK_seq (OK_seq (OK_ist (OK_econd (OK_cor (OK_if (OK_cS (OK_aI (OK_iald (OK_rfld (OK_rloc _)) (OK_iloc _)) (OK_aI (OK_iloc _) OK_anil)))) (OK_if (OK_cS (OK_aI (OK_iald (OK_rfld (OK_rloc _)) (OK_iloc _)) (OK_aI (OK_iloc _) OK_anil))))) (OK_const _) (OK_const _))) (OK_ist (OK_add (OK_iloc _) (OK_econd (OK_cor (OK_if (OK_iloc _)) (OK_if (OK_cS (OK_aI (OK_iald (OK_rfld (OK_rloc _)) (OK_iloc _)) (OK_aI (OK_iloc _) OK_anil))))) (OK_const _) (OK_const _))))) OK_inc))) OK_inc))) (OK_retI (OK_iloc _)))
theorem K_eP_countConcurrentPairs : M_eP_countConcurrentPairs.1 (3, (kini 1), prog_5_method_7_code, some (.int), 5) 0 = some (95, false, []) := by decide +kernel
theorem C_eP_countConcurrentPairs {d mc ms : Nat} {av : List Value} {h : FH} {Rr : Option Value → FH → Prop} (hl : (lg_sl av).length ≤ 5) (body : ∀ g : GE, g.1 = d → M_eP_countConcurrentPairs.2 g (fun _ _ _ => False) Rr (eent 5 av) h (mc, ms)) : Call 39 d av h mc ms Rr := call_of2 (k := 39) (own := 3) ((mtb_0 (i := 39) (by decide)).trans rfl) (by decide +kernel) rfl O_eP_countConcurrentPairs K_eP_countConcurrentPairs hl body
/-- method 40: EventStructures.isConfiguration(II)I -/
def M_eM_isConfiguration : ST := s_seq (s_ast 3 (e_cV va_rf 31 (r_loc 0) (aI1 (i_loc 1) a_nil)))
 (s_seq (s_if (c_nul true (r_loc 3)) (s_retI (i_const (-1))))
 (s_retI (e_cond (c_b (e_cV Value.int 41 (r_loc 3) (aI1 (i_loc 2) a_nil))) (i_const 1) (i_const 0))))
theorem O_eM_isConfiguration : OKS M_eM_isConfiguration := OK_seq (OK_ast (OK_cV (OK_rloc _) (OK_aI (OK_iloc _) OK_anil))) (OK_seq (OK_sif (OK_nul (OK_rloc _)) (OK_retI (OK_const _))) (OK_retI (OK_econd (OK_if (OK_cV (OK_rloc _) (OK_aI (OK_iloc _) OK_anil))) (OK_const _) (OK_const _))))
theorem K_eM_isConfiguration : M_eM_isConfiguration.1 (7, (kini 1), prog_1_method_15_code, some (.int), 4) 0 = some (26, false, []) := by decide +kernel
theorem C_eM_isConfiguration {d mc ms : Nat} {av : List Value} {h : FH} {Rr : Option Value → FH → Prop} (hl : (lg_sl av).length ≤ 4) (body : ∀ g : GE, g.1 = d → M_eM_isConfiguration.2 g (fun _ _ _ => False) Rr (eent 4 av) h (mc, ms)) : Call 40 d av h mc ms Rr := call_of2 (k := 40) (own := 7) ((mtb_1 (i := 0) (by decide)).trans rfl) (by decide +kernel) rfl O_eM_isConfiguration K_eM_isConfiguration hl body
/-- method 41: EventStructures$Space.holds(I)Z -/
def M_eP_holds : ST := s_retZ (e_cond (c_and (c_and (c_if .ge (i_loc 1)) (c_icmp .lt (i_loc 1) (i_const 256))) (c_b (i_zald (r_fld 3 3 (r_loc 0)) (i_loc 1)))) (i_const 1) (i_const 0))
theorem O_eP_holds : OKS M_eP_holds := OK_retZ (OK_econd (OK_cand (OK_cand (OK_if (OK_iloc _)) (OK_icmp (OK_iloc _) (OK_const _))) (OK_if (OK_zald (OK_rfld (OK_rloc _)) (OK_iloc _)))) (OK_const _) (OK_const _))
theorem K_eP_holds : M_eP_holds.1 (3, (kini 1), prog_5_method_5_code, some (.boolean), 2) 0 = some (26, false, []) := by decide +kernel
theorem C_eP_holds {d mc ms : Nat} {av : List Value} {h : FH} {Rr : Option Value → FH → Prop} (hl : (lg_sl av).length ≤ 2) (body : ∀ g : GE, g.1 = d → M_eP_holds.2 g (fun _ _ _ => False) Rr (eent 2 av) h (mc, ms)) : Call 41 d av h mc ms Rr := call_of2 (k := 41) (own := 3) ((mtb_1 (i := 1) (by decide)).trans rfl) (by decide +kernel) rfl O_eP_holds K_eP_holds hl body
/-- method 42: EventStructures.configurationCount(I)I -/
def M_eM_configurationCount : ST := s_seq (s_ast 2 (e_cV va_rf 31 (r_loc 0) (aI1 (i_loc 1) a_nil)))
 (s_retI (e_cond (c_nul true (r_loc 2)) (i_const (-1)) (e_cV Value.int 43 (r_loc 2) a_nil)))
theorem O_eM_configurationCount : OKS M_eM_configurationCount := OK_seq (OK_ast (OK_cV (OK_rloc _) (OK_aI (OK_iloc _) OK_anil))) (OK_retI (OK_econd (OK_nul (OK_rloc _)) (OK_const _) (OK_cV (OK_rloc _) OK_anil)))
theorem K_eM_configurationCount : M_eM_configurationCount.1 (7, (kini 1), prog_1_method_16_code, some (.int), 3) 0 = some (19, false, []) := by decide +kernel
theorem C_eM_configurationCount {d mc ms : Nat} {av : List Value} {h : FH} {Rr : Option Value → FH → Prop} (hl : (lg_sl av).length ≤ 3) (body : ∀ g : GE, g.1 = d → M_eM_configurationCount.2 g (fun _ _ _ => False) Rr (eent 3 av) h (mc, ms)) : Call 42 d av h mc ms Rr := call_of2 (k := 42) (own := 7) ((mtb_1 (i := 2) (by decide)).trans rfl) (by decide +kernel) rfl O_eM_configurationCount K_eM_configurationCount hl body
/-- method 43: EventStructures$Space.countConfigurations()I -/
def M_eP_countConfigurations : ST := s_seq (s_ist 1 (i_const 0))
 (s_seq (s_seq (s_ist 2 (i_const 0))
 (s_whl (c_icmp .lt (i_loc 2) (i_const 256)) (s_seq (s_ist 1 (i_add (i_loc 1) (e_cond (c_b (i_zald (r_fld 3 3 (r_loc 0)) (i_loc 2))) (i_const 1) (i_const 0))))
 (s_inc 2 1))))
 (s_retI (i_loc 1)))
theorem O_eP_countConfigurations : OKS M_eP_countConfigurations := OK_seq (OK_ist (OK_const _)) (OK_seq (OK_seq (OK_ist (OK_const _)) (OK_whl (OK_icmp (OK_iloc _) (OK_const _)) (OK_seq (OK_ist (OK_add (OK_iloc _) (OK_econd (OK_if (OK_zald (OK_rfld (OK_rloc _)) (OK_iloc _))) (OK_const _) (OK_const _)))) OK_inc))) (OK_retI (OK_iloc _)))
theorem K_eP_countConfigurations : M_eP_countConfigurations.1 (3, (kini 1), prog_5_method_8_code, some (.int), 3) 0 = some (36, false, []) := by decide +kernel
theorem C_eP_countConfigurations {d mc ms : Nat} {av : List Value} {h : FH} {Rr : Option Value → FH → Prop} (hl : (lg_sl av).length ≤ 3) (body : ∀ g : GE, g.1 = d → M_eP_countConfigurations.2 g (fun _ _ _ => False) Rr (eent 3 av) h (mc, ms)) : Call 43 d av h mc ms Rr := call_of2 (k := 43) (own := 3) ((mtb_1 (i := 3) (by decide)).trans rfl) (by decide +kernel) rfl O_eP_countConfigurations K_eP_countConfigurations hl body
/-- method 44: EventStructures.maximalCount(I)I -/
def M_eM_maximalCount : ST := s_seq (s_ast 2 (e_cV va_rf 31 (r_loc 0) (aI1 (i_loc 1) a_nil)))
 (s_retI (e_cond (c_nul true (r_loc 2)) (i_const (-1)) (e_cV Value.int 45 (r_loc 2) a_nil)))
theorem O_eM_maximalCount : OKS M_eM_maximalCount := OK_seq (OK_ast (OK_cV (OK_rloc _) (OK_aI (OK_iloc _) OK_anil))) (OK_retI (OK_econd (OK_nul (OK_rloc _)) (OK_const _) (OK_cV (OK_rloc _) OK_anil)))
theorem K_eM_maximalCount : M_eM_maximalCount.1 (7, (kini 1), prog_1_method_17_code, some (.int), 3) 0 = some (19, false, []) := by decide +kernel
theorem C_eM_maximalCount {d mc ms : Nat} {av : List Value} {h : FH} {Rr : Option Value → FH → Prop} (hl : (lg_sl av).length ≤ 3) (body : ∀ g : GE, g.1 = d → M_eM_maximalCount.2 g (fun _ _ _ => False) Rr (eent 3 av) h (mc, ms)) : Call 44 d av h mc ms Rr := call_of2 (k := 44) (own := 7) ((mtb_1 (i := 4) (by decide)).trans rfl) (by decide +kernel) rfl O_eM_maximalCount K_eM_maximalCount hl body
/-- method 45: EventStructures$Space.countMaximal()I -/
def M_eP_countMaximal : ST := s_seq (s_ist 1 (i_const 0))
 (s_seq (s_seq (s_ist 2 (i_const 0))
 (s_whl (c_icmp .lt (i_loc 2) (i_const 256)) (s_seq (s_ist 1 (i_add (i_loc 1) (e_cond (c_b (e_cV Value.int 46 (r_loc 0) (aI1 (i_loc 2) a_nil))) (i_const 1) (i_const 0))))
 (s_inc 2 1))))
 (s_retI (i_loc 1)))
theorem O_eP_countMaximal : OKS M_eP_countMaximal := OK_seq (OK_ist (OK_const _)) (OK_seq (OK_seq (OK_ist (OK_const _)) (OK_whl (OK_icmp (OK_iloc _) (OK_const _)) (OK_seq (OK_ist (OK_add (OK_iloc _) (OK_econd (OK_if (OK_cV (OK_rloc _) (OK_aI (OK_iloc _) OK_anil))) (OK_const _) (OK_const _)))) OK_inc))) (OK_retI (OK_iloc _)))
theorem K_eP_countMaximal : M_eP_countMaximal.1 (3, (kini 1), prog_5_method_10_code, some (.int), 3) 0 = some (35, false, []) := by decide +kernel
theorem C_eP_countMaximal {d mc ms : Nat} {av : List Value} {h : FH} {Rr : Option Value → FH → Prop} (hl : (lg_sl av).length ≤ 3) (body : ∀ g : GE, g.1 = d → M_eP_countMaximal.2 g (fun _ _ _ => False) Rr (eent 3 av) h (mc, ms)) : Call 45 d av h mc ms Rr := call_of2 (k := 45) (own := 3) ((mtb_1 (i := 5) (by decide)).trans rfl) (by decide +kernel) rfl O_eP_countMaximal K_eP_countMaximal hl body
/-- method 46: EventStructures$Space.isMaximal(I)Z -/
def M_eP_isMaximal : ST := s_retZ (e_cond (c_and (c_b (i_zald (r_fld 3 3 (r_loc 0)) (i_loc 1))) (c_if .eq (i_ald (r_fld 3 4 (r_loc 0)) (i_loc 1)))) (i_const 1) (i_const 0))
theorem O_eP_isMaximal : OKS M_eP_isMaximal := OK_retZ (OK_econd (OK_cand (OK_if (OK_zald (OK_rfld (OK_rloc _)) (OK_iloc _))) (OK_if (OK_iald (OK_rfld (OK_rloc _)) (OK_iloc _)))) (OK_const _) (OK_const _))
theorem K_eP_isMaximal : M_eP_isMaximal.1 (3, (kini 1), prog_5_method_9_code, some (.boolean), 2) 0 = some (24, false, []) := by decide +kernel
theorem C_eP_isMaximal {d mc ms : Nat} {av : List Value} {h : FH} {Rr : Option Value → FH → Prop} (hl : (lg_sl av).length ≤ 2) (body : ∀ g : GE, g.1 = d → M_eP_isMaximal.2 g (fun _ _ _ => False) Rr (eent 2 av) h (mc, ms)) : Call 46 d av h mc ms Rr := call_of2 (k := 46) (own := 3) ((mtb_1 (i := 6) (by decide)).trans rfl) (by decide +kernel) rfl O_eP_isMaximal K_eP_isMaximal hl body
/-- method 47: EventStructures.maximalConfiguration(II)I -/
def M_eM_maximalConfiguration : ST := s_seq (s_ast 3 (e_cV va_rf 31 (r_loc 0) (aI1 (i_loc 1) a_nil)))
 (s_retI (e_cond (c_nul true (r_loc 3)) (i_const (-1)) (e_cV Value.int 48 (r_loc 3) (aI1 (i_loc 2) a_nil))))
theorem O_eM_maximalConfiguration : OKS M_eM_maximalConfiguration := OK_seq (OK_ast (OK_cV (OK_rloc _) (OK_aI (OK_iloc _) OK_anil))) (OK_retI (OK_econd (OK_nul (OK_rloc _)) (OK_const _) (OK_cV (OK_rloc _) (OK_aI (OK_iloc _) OK_anil))))
theorem K_eM_maximalConfiguration : M_eM_maximalConfiguration.1 (7, (kini 1), prog_1_method_18_code, some (.int), 4) 0 = some (20, false, []) := by decide +kernel
theorem C_eM_maximalConfiguration {d mc ms : Nat} {av : List Value} {h : FH} {Rr : Option Value → FH → Prop} (hl : (lg_sl av).length ≤ 4) (body : ∀ g : GE, g.1 = d → M_eM_maximalConfiguration.2 g (fun _ _ _ => False) Rr (eent 4 av) h (mc, ms)) : Call 47 d av h mc ms Rr := call_of2 (k := 47) (own := 7) ((mtb_1 (i := 7) (by decide)).trans rfl) (by decide +kernel) rfl O_eM_maximalConfiguration K_eM_maximalConfiguration hl body
/-- method 48: EventStructures$Space.findMaximal(I)I -/
def M_eP_findMaximal : ST := s_seq (s_ist 2 (i_const 0))
 (s_seq (s_seq (s_ist 3 (i_const 0))
 (s_whl (c_icmp .lt (i_loc 3) (i_const 256)) (s_seq (s_if (c_b (e_cV Value.int 46 (r_loc 0) (aI1 (i_loc 3) a_nil))) (s_seq (s_if (c_icmp .eq (i_loc 2) (i_loc 1)) (s_retI (i_loc 3)))
 (s_inc 2 1)))
 (s_inc 3 1))))
 (s_retI (i_const (-7))))
theorem O_eP_findMaximal : OKS M_eP_findMaximal := OK_seq (OK_ist (OK_const _)) (OK_seq (OK_seq (OK_ist (OK_const _)) (OK_whl (OK_icmp (OK_iloc _) (OK_const _)) (OK_seq (OK_sif (OK_if (OK_cV (OK_rloc _) (OK_aI (OK_iloc _) OK_anil))) (OK_seq (OK_sif (OK_icmp (OK_iloc _) (OK_iloc _)) (OK_retI (OK_iloc _))) OK_inc)) OK_inc))) (OK_retI (OK_const _)))
theorem K_eP_findMaximal : M_eP_findMaximal.1 (3, (kini 1), prog_5_method_11_code, some (.int), 4) 0 = some (38, false, []) := by decide +kernel
theorem C_eP_findMaximal {d mc ms : Nat} {av : List Value} {h : FH} {Rr : Option Value → FH → Prop} (hl : (lg_sl av).length ≤ 4) (body : ∀ g : GE, g.1 = d → M_eP_findMaximal.2 g (fun _ _ _ => False) Rr (eent 4 av) h (mc, ms)) : Call 48 d av h mc ms Rr := call_of2 (k := 48) (own := 3) ((mtb_1 (i := 8) (by decide)).trans rfl) (by decide +kernel) rfl O_eP_findMaximal K_eP_findMaximal hl body
/-- method 49: EventStructures.enabled(II)I -/
def M_eM_enabled : ST := s_seq (s_ast 3 (e_cV va_rf 31 (r_loc 0) (aI1 (i_loc 1) a_nil)))
 (s_seq (s_if (c_nul true (r_loc 3)) (s_retI (i_const (-1))))
 (s_retI (e_cond (c_b (e_cV Value.int 41 (r_loc 3) (aI1 (i_loc 2) a_nil))) (i_ald (r_fld 3 4 (r_loc 3)) (i_loc 2)) (i_const (-5)))))
theorem O_eM_enabled : OKS M_eM_enabled := OK_seq (OK_ast (OK_cV (OK_rloc _) (OK_aI (OK_iloc _) OK_anil))) (OK_seq (OK_sif (OK_nul (OK_rloc _)) (OK_retI (OK_const _))) (OK_retI (OK_econd (OK_if (OK_cV (OK_rloc _) (OK_aI (OK_iloc _) OK_anil))) (OK_iald (OK_rfld (OK_rloc _)) (OK_iloc _)) (OK_const _))))
theorem K_eM_enabled : M_eM_enabled.1 (7, (kini 1), prog_1_method_19_code, some (.int), 4) 0 = some (32, false, []) := by decide +kernel
theorem C_eM_enabled {d mc ms : Nat} {av : List Value} {h : FH} {Rr : Option Value → FH → Prop} (hl : (lg_sl av).length ≤ 4) (body : ∀ g : GE, g.1 = d → M_eM_enabled.2 g (fun _ _ _ => False) Rr (eent 4 av) h (mc, ms)) : Call 49 d av h mc ms Rr := call_of2 (k := 49) (own := 7) ((mtb_1 (i := 9) (by decide)).trans rfl) (by decide +kernel) rfl O_eM_enabled K_eM_enabled hl body
/-- method 50: EventStructures.stepCount(II)I -/
def M_eM_stepCount : ST := s_seq (s_ast 3 (e_cV va_rf 31 (r_loc 0) (aI1 (i_loc 1) a_nil)))
 (s_seq (s_if (c_nul true (r_loc 3)) (s_retI (i_const (-1))))
 (s_retI (e_cond (c_b (e_cV Value.int 41 (r_loc 3) (aI1 (i_loc 2) a_nil))) (e_cV Value.int 51 (r_loc 3) (aI1 (i_loc 2) a_nil)) (i_const (-5)))))
theorem O_eM_stepCount : OKS M_eM_stepCount := OK_seq (OK_ast (OK_cV (OK_rloc _) (OK_aI (OK_iloc _) OK_anil))) (OK_seq (OK_sif (OK_nul (OK_rloc _)) (OK_retI (OK_const _))) (OK_retI (OK_econd (OK_if (OK_cV (OK_rloc _) (OK_aI (OK_iloc _) OK_anil))) (OK_cV (OK_rloc _) (OK_aI (OK_iloc _) OK_anil)) (OK_const _))))
theorem K_eM_stepCount : M_eM_stepCount.1 (7, (kini 1), prog_1_method_20_code, some (.int), 4) 0 = some (31, false, []) := by decide +kernel
theorem C_eM_stepCount {d mc ms : Nat} {av : List Value} {h : FH} {Rr : Option Value → FH → Prop} (hl : (lg_sl av).length ≤ 4) (body : ∀ g : GE, g.1 = d → M_eM_stepCount.2 g (fun _ _ _ => False) Rr (eent 4 av) h (mc, ms)) : Call 50 d av h mc ms Rr := call_of2 (k := 50) (own := 7) ((mtb_1 (i := 10) (by decide)).trans rfl) (by decide +kernel) rfl O_eM_stepCount K_eM_stepCount hl body
/-- method 51: EventStructures$Space.countSteps(I)I -/
def M_eP_countSteps : ST := s_seq (s_ist 2 (e_cV Value.int 52 (r_loc 0) (aI1 (i_loc 1) a_nil)))
 (s_seq (s_ist 3 (i_const 0))
 (s_seq (s_seq (s_ist 4 (i_loc 2))
 (s_whl (c_if .gt (i_loc 4)) (s_seq (s_ist 3 (i_add (i_loc 3) (e_cond (c_b (e_cV Value.int 53 (r_loc 0) (aI1 (i_loc 1) (aI1 (i_loc 4) a_nil)))) (i_const 1) (i_const 0))))
 (s_ist 4 (i_and (i_sub (i_loc 4) (i_const 1)) (i_loc 2))))))
 (s_retI (i_loc 3))))
theorem O_eP_countSteps : OKS M_eP_countSteps := OK_seq (OK_ist (OK_cV (OK_rloc _) (OK_aI (OK_iloc _) OK_anil))) (OK_seq (OK_ist (OK_const _)) (OK_seq (OK_seq (OK_ist (OK_iloc _)) (OK_whl (OK_if (OK_iloc _)) (OK_seq (OK_ist (OK_add (OK_iloc _) (OK_econd (OK_if (OK_cV (OK_rloc _) (OK_aI (OK_iloc _) (OK_aI (OK_iloc _) OK_anil)))) (OK_const _) (OK_const _)))) (OK_ist (OK_and (OK_sub (OK_iloc _) (OK_const _)) (OK_iloc _)))))) (OK_retI (OK_iloc _))))
theorem K_eP_countSteps : M_eP_countSteps.1 (3, (kini 1), prog_5_method_13_code, some (.int), 5) 0 = some (47, false, []) := by decide +kernel
theorem C_eP_countSteps {d mc ms : Nat} {av : List Value} {h : FH} {Rr : Option Value → FH → Prop} (hl : (lg_sl av).length ≤ 5) (body : ∀ g : GE, g.1 = d → M_eP_countSteps.2 g (fun _ _ _ => False) Rr (eent 5 av) h (mc, ms)) : Call 51 d av h mc ms Rr := call_of2 (k := 51) (own := 3) ((mtb_1 (i := 11) (by decide)).trans rfl) (by decide +kernel) rfl O_eP_countSteps K_eP_countSteps hl body
/-- method 52: EventStructures$Space.opensAt(I)I -/
def M_eP_opensAt : ST := s_retI (e_cond (c_b (e_cV Value.int 41 (r_loc 0) (aI1 (i_loc 1) a_nil))) (i_ald (r_fld 3 4 (r_loc 0)) (i_loc 1)) (i_const 0))
theorem O_eP_opensAt : OKS M_eP_opensAt := OK_retI (OK_econd (OK_if (OK_cV (OK_rloc _) (OK_aI (OK_iloc _) OK_anil))) (OK_iald (OK_rfld (OK_rloc _)) (OK_iloc _)) (OK_const _))
theorem K_eP_opensAt : M_eP_opensAt.1 (3, (kini 1), prog_5_method_6_code, some (.int), 2) 0 = some (19, false, []) := by decide +kernel
theorem C_eP_opensAt {d mc ms : Nat} {av : List Value} {h : FH} {Rr : Option Value → FH → Prop} (hl : (lg_sl av).length ≤ 2) (body : ∀ g : GE, g.1 = d → M_eP_opensAt.2 g (fun _ _ _ => False) Rr (eent 2 av) h (mc, ms)) : Call 52 d av h mc ms Rr := call_of2 (k := 52) (own := 3) ((mtb_1 (i := 12) (by decide)).trans rfl) (by decide +kernel) rfl O_eP_opensAt K_eP_opensAt hl body
/-- method 53: EventStructures$Space.isStep(II)Z -/
def M_eP_isStep : ST := s_retZ (e_cond (c_and (c_and (c_if .ne (i_loc 2)) (c_if .eq (i_and (i_loc 2) (i_xor (e_cV Value.int 52 (r_loc 0) (aI1 (i_loc 1) a_nil)) (i_const (-1)))))) (c_b (e_cV Value.int 41 (r_loc 0) (aI1 (i_or (i_loc 1) (i_loc 2)) a_nil)))) (i_const 1) (i_const 0))
theorem O_eP_isStep : OKS M_eP_isStep := OK_retZ (OK_econd (OK_cand (OK_cand (OK_if (OK_iloc _)) (OK_if (OK_and (OK_iloc _) (OK_xor (OK_cV (OK_rloc _) (OK_aI (OK_iloc _) OK_anil)) (OK_const _))))) (OK_if (OK_cV (OK_rloc _) (OK_aI (OK_or (OK_iloc _) (OK_iloc _)) OK_anil)))) (OK_const _) (OK_const _))
theorem K_eP_isStep : M_eP_isStep.1 (3, (kini 1), prog_5_method_12_code, some (.boolean), 3) 0 = some (32, false, []) := by decide +kernel
theorem C_eP_isStep {d mc ms : Nat} {av : List Value} {h : FH} {Rr : Option Value → FH → Prop} (hl : (lg_sl av).length ≤ 3) (body : ∀ g : GE, g.1 = d → M_eP_isStep.2 g (fun _ _ _ => False) Rr (eent 3 av) h (mc, ms)) : Call 53 d av h mc ms Rr := call_of2 (k := 53) (own := 3) ((mtb_1 (i := 13) (by decide)).trans rfl) (by decide +kernel) rfl O_eP_isStep K_eP_isStep hl body
/-- method 54: EventStructures.largestStep(II)I -/
def M_eM_largestStep : ST := s_seq (s_ast 3 (e_cV va_rf 31 (r_loc 0) (aI1 (i_loc 1) a_nil)))
 (s_seq (s_if (c_nul true (r_loc 3)) (s_retI (i_const (-1))))
 (s_retI (e_cond (c_b (e_cV Value.int 41 (r_loc 3) (aI1 (i_loc 2) a_nil))) (e_cV Value.int 55 (r_loc 3) (aI1 (i_loc 2) a_nil)) (i_const (-5)))))
theorem O_eM_largestStep : OKS M_eM_largestStep := OK_seq (OK_ast (OK_cV (OK_rloc _) (OK_aI (OK_iloc _) OK_anil))) (OK_seq (OK_sif (OK_nul (OK_rloc _)) (OK_retI (OK_const _))) (OK_retI (OK_econd (OK_if (OK_cV (OK_rloc _) (OK_aI (OK_iloc _) OK_anil))) (OK_cV (OK_rloc _) (OK_aI (OK_iloc _) OK_anil)) (OK_const _))))
theorem K_eM_largestStep : M_eM_largestStep.1 (7, (kini 1), prog_1_method_21_code, some (.int), 4) 0 = some (31, false, []) := by decide +kernel
theorem C_eM_largestStep {d mc ms : Nat} {av : List Value} {h : FH} {Rr : Option Value → FH → Prop} (hl : (lg_sl av).length ≤ 4) (body : ∀ g : GE, g.1 = d → M_eM_largestStep.2 g (fun _ _ _ => False) Rr (eent 4 av) h (mc, ms)) : Call 54 d av h mc ms Rr := call_of2 (k := 54) (own := 7) ((mtb_1 (i := 14) (by decide)).trans rfl) (by decide +kernel) rfl O_eM_largestStep K_eM_largestStep hl body
/-- method 55: EventStructures$Space.findLargestStep(I)I -/
def M_eP_findLargestStep : ST := s_seq (s_ist 2 (e_cV Value.int 52 (r_loc 0) (aI1 (i_loc 1) a_nil)))
 (s_seq (s_ist 3 (i_const 0))
 (s_seq (s_seq (s_ist 4 (i_loc 2))
 (s_whl (c_if .gt (i_loc 4)) (s_seq (s_if (c_and (c_icmp .gt (e_cS Value.int 56 (aI1 (i_loc 4) a_nil)) (e_cS Value.int 56 (aI1 (i_loc 3) a_nil))) (c_b (e_cV Value.int 53 (r_loc 0) (aI1 (i_loc 1) (aI1 (i_loc 4) a_nil))))) (s_ist 3 (i_loc 4)))
 (s_ist 4 (i_and (i_sub (i_loc 4) (i_const 1)) (i_loc 2))))))
 (s_retI (i_loc 3))))
theorem O_eP_findLargestStep : OKS M_eP_findLargestStep := OK_seq (OK_ist (OK_cV (OK_rloc _) (OK_aI (OK_iloc _) OK_anil))) (OK_seq (OK_ist (OK_const _)) (OK_seq (OK_seq (OK_ist (OK_iloc _)) (OK_whl (OK_if (OK_iloc _)) (OK_seq (OK_sif (OK_cand (OK_icmp (OK_cS (OK_aI (OK_iloc _) OK_anil)) (OK_cS (OK_aI (OK_iloc _) OK_anil))) (OK_if (OK_cV (OK_rloc _) (OK_aI (OK_iloc _) (OK_aI (OK_iloc _) OK_anil))))) (OK_ist (OK_iloc _))) (OK_ist (OK_and (OK_sub (OK_iloc _) (OK_const _)) (OK_iloc _)))))) (OK_retI (OK_iloc _))))
theorem K_eP_findLargestStep : M_eP_findLargestStep.1 (3, (kini 1), prog_5_method_14_code, some (.int), 5) 0 = some (54, false, []) := by decide +kernel
theorem C_eP_findLargestStep {d mc ms : Nat} {av : List Value} {h : FH} {Rr : Option Value → FH → Prop} (hl : (lg_sl av).length ≤ 5) (body : ∀ g : GE, g.1 = d → M_eP_findLargestStep.2 g (fun _ _ _ => False) Rr (eent 5 av) h (mc, ms)) : Call 55 d av h mc ms Rr := call_of2 (k := 55) (own := 3) ((mtb_1 (i := 15) (by decide)).trans rfl) (by decide +kernel) rfl O_eP_findLargestStep K_eP_findLargestStep hl body
/-- method 57: EventStructures.runCount(II)I -/
def M_eM_runCount : ST := s_retI (e_cV Value.int 58 (r_loc 0) (aI1 (i_loc 1) (aI1 (i_loc 2) (aI1 (i_const 0) a_nil))))
theorem O_eM_runCount : OKS M_eM_runCount := OK_retI (OK_cV (OK_rloc _) (OK_aI (OK_iloc _) (OK_aI (OK_iloc _) (OK_aI (OK_const _) OK_anil))))
theorem K_eM_runCount : M_eM_runCount.1 (7, (kini 1), prog_1_method_22_code, some (.int), 3) 0 = some (8, false, []) := by decide +kernel
theorem C_eM_runCount {d mc ms : Nat} {av : List Value} {h : FH} {Rr : Option Value → FH → Prop} (hl : (lg_sl av).length ≤ 3) (body : ∀ g : GE, g.1 = d → M_eM_runCount.2 g (fun _ _ _ => False) Rr (eent 3 av) h (mc, ms)) : Call 57 d av h mc ms Rr := call_of2 (k := 57) (own := 7) ((mtb_1 (i := 17) (by decide)).trans rfl) (by decide +kernel) rfl O_eM_runCount K_eM_runCount hl body
/-- method 58: EventStructures.countWays(IIZ)I -/
def M_eM_countWays : ST := s_seq (s_ast 4 (e_cV va_rf 31 (r_loc 0) (aI1 (i_loc 1) a_nil)))
 (s_seq (s_if (c_nul true (r_loc 4)) (s_retI (i_const (-1))))
 (s_retI (e_cond (c_b (e_cV Value.int 41 (r_loc 4) (aI1 (i_loc 2) a_nil))) (e_cV Value.int 59 (r_loc 4) (aI1 (i_loc 2) (aI1 (i_loc 3) a_nil))) (i_const (-5)))))
theorem O_eM_countWays : OKS M_eM_countWays := OK_seq (OK_ast (OK_cV (OK_rloc _) (OK_aI (OK_iloc _) OK_anil))) (OK_seq (OK_sif (OK_nul (OK_rloc _)) (OK_retI (OK_const _))) (OK_retI (OK_econd (OK_if (OK_cV (OK_rloc _) (OK_aI (OK_iloc _) OK_anil))) (OK_cV (OK_rloc _) (OK_aI (OK_iloc _) (OK_aI (OK_iloc _) OK_anil))) (OK_const _))))
theorem K_eM_countWays : M_eM_countWays.1 (7, (kini 1), prog_1_method_47_code, some (.int), 5) 0 = some (36, false, []) := by decide +kernel
theorem C_eM_countWays {d mc ms : Nat} {av : List Value} {h : FH} {Rr : Option Value → FH → Prop} (hl : (lg_sl av).length ≤ 5) (body : ∀ g : GE, g.1 = d → M_eM_countWays.2 g (fun _ _ _ => False) Rr (eent 5 av) h (mc, ms)) : Call 58 d av h mc ms Rr := call_of2 (k := 58) (own := 7) ((mtb_1 (i := 18) (by decide)).trans rfl) (by decide +kernel) rfl O_eM_countWays K_eM_countWays hl body
/-- method 59: EventStructures$Space.countWays(IZ)I -/
def M_eP_countWays : ST := s_seq (s_iast (r_fld 3 5 (r_loc 0)) (i_const 0) (i_const 1))
 (s_seq (s_seq (s_ist 3 (i_const 1))
 (s_whl (c_and (c_icmp .le (i_loc 3) (i_loc 1)) (c_icmp .lt (i_loc 3) (i_const 256))) (s_seq (s_if (c_and (c_if .eq (i_and (i_loc 3) (i_xor (i_loc 1) (i_const (-1))))) (c_b (i_zald (r_fld 3 3 (r_loc 0)) (i_loc 3)))) (s_iast (r_fld 3 5 (r_loc 0)) (i_loc 3) (e_cV Value.int 60 (r_loc 0) (aI1 (i_loc 3) (aI1 (i_loc 2) a_nil)))))
 (s_inc 3 1))))
 (s_retI (e_cond (c_b (e_cV Value.int 41 (r_loc 0) (aI1 (i_loc 1) a_nil))) (i_ald (r_fld 3 5 (r_loc 0)) (i_loc 1)) (i_const 0))))
theorem O_eP_countWays : OKS M_eP_countWays := OK_seq (OK_siast (OK_rfld (OK_rloc _)) (OK_const _) (OK_const _)) (OK_seq (OK_seq (OK_ist (OK_const _)) (OK_whl (OK_cand (OK_icmp (OK_iloc _) (OK_iloc _)) (OK_icmp (OK_iloc _) (OK_const _))) (OK_seq (OK_sif (OK_cand (OK_if (OK_and (OK_iloc _) (OK_xor (OK_iloc _) (OK_const _)))) (OK_if (OK_zald (OK_rfld (OK_rloc _)) (OK_iloc _)))) (OK_siast (OK_rfld (OK_rloc _)) (OK_iloc _) (OK_cV (OK_rloc _) (OK_aI (OK_iloc _) (OK_aI (OK_iloc _) OK_anil))))) OK_inc))) (OK_retI (OK_econd (OK_if (OK_cV (OK_rloc _) (OK_aI (OK_iloc _) OK_anil))) (OK_iald (OK_rfld (OK_rloc _)) (OK_iloc _)) (OK_const _))))
theorem K_eP_countWays : M_eP_countWays.1 (3, (kini 1), prog_5_method_15_code, some (.int), 4) 0 = some (75, false, []) := by decide +kernel
theorem C_eP_countWays {d mc ms : Nat} {av : List Value} {h : FH} {Rr : Option Value → FH → Prop} (hl : (lg_sl av).length ≤ 4) (body : ∀ g : GE, g.1 = d → M_eP_countWays.2 g (fun _ _ _ => False) Rr (eent 4 av) h (mc, ms)) : Call 59 d av h mc ms Rr := call_of2 (k := 59) (own := 3) ((mtb_1 (i := 19) (by decide)).trans rfl) (by decide +kernel) rfl O_eP_countWays K_eP_countWays hl body
/-- method 60: EventStructures$Space.sumOfWays(IZ)I -/
def M_eP_sumOfWays : ST := s_seq (s_ist 3 (i_const 0))
 (s_seq (s_seq (s_ist 4 (i_loc 1))
 (s_whl (c_if .gt (i_loc 4)) (s_seq (s_if (c_and (c_or (c_b (i_loc 2)) (c_icmp .eq (e_cS Value.int 56 (aI1 (i_loc 4) a_nil)) (i_const 1))) (c_b (e_cV Value.int 53 (r_loc 0) (aI1 (i_and (i_loc 1) (i_xor (i_loc 4) (i_const (-1)))) (aI1 (i_loc 4) a_nil))))) (s_ist 3 (i_add (i_loc 3) (i_ald (r_fld 3 5 (r_loc 0)) (i_and (i_loc 1) (i_xor (i_loc 4) (i_const (-1))))))))
 (s_ist 4 (i_and (i_sub (i_loc 4) (i_const 1)) (i_loc 1))))))
 (s_retI (i_loc 3)))
theorem O_eP_sumOfWays : OKS M_eP_sumOfWays := OK_seq (OK_ist (OK_const _)) (OK_seq (OK_seq (OK_ist (OK_iloc _)) (OK_whl (OK_if (OK_iloc _)) (OK_seq (OK_sif (OK_cand (OK_cor (OK_if (OK_iloc _)) (OK_icmp (OK_cS (OK_aI (OK_iloc _) OK_anil)) (OK_const _))) (OK_if (OK_cV (OK_rloc _) (OK_aI (OK_and (OK_iloc _) (OK_xor (OK_iloc _) (OK_const _))) (OK_aI (OK_iloc _) OK_anil))))) (OK_ist (OK_add (OK_iloc _) (OK_iald (OK_rfld (OK_rloc _)) (OK_and (OK_iloc _) (OK_xor (OK_iloc _) (OK_const _))))))) (OK_ist (OK_and (OK_sub (OK_iloc _) (OK_const _)) (OK_iloc _)))))) (OK_retI (OK_iloc _)))
theorem K_eP_sumOfWays : M_eP_sumOfWays.1 (3, (kini 1), prog_5_method_16_code, some (.int), 5) 0 = some (65, false, []) := by decide +kernel
theorem C_eP_sumOfWays {d mc ms : Nat} {av : List Value} {h : FH} {Rr : Option Value → FH → Prop} (hl : (lg_sl av).length ≤ 5) (body : ∀ g : GE, g.1 = d → M_eP_sumOfWays.2 g (fun _ _ _ => False) Rr (eent 5 av) h (mc, ms)) : Call 60 d av h mc ms Rr := call_of2 (k := 60) (own := 3) ((mtb_1 (i := 20) (by decide)).trans rfl) (by decide +kernel) rfl O_eP_sumOfWays K_eP_sumOfWays hl body
/-- method 61: EventStructures.stepRunCount(II)I -/
def M_eM_stepRunCount : ST := s_retI (e_cV Value.int 58 (r_loc 0) (aI1 (i_loc 1) (aI1 (i_loc 2) (aI1 (i_const 1) a_nil))))
theorem O_eM_stepRunCount : OKS M_eM_stepRunCount := OK_retI (OK_cV (OK_rloc _) (OK_aI (OK_iloc _) (OK_aI (OK_iloc _) (OK_aI (OK_const _) OK_anil))))
theorem K_eM_stepRunCount : M_eM_stepRunCount.1 (7, (kini 1), prog_1_method_23_code, some (.int), 3) 0 = some (8, false, []) := by decide +kernel
theorem C_eM_stepRunCount {d mc ms : Nat} {av : List Value} {h : FH} {Rr : Option Value → FH → Prop} (hl : (lg_sl av).length ≤ 3) (body : ∀ g : GE, g.1 = d → M_eM_stepRunCount.2 g (fun _ _ _ => False) Rr (eent 3 av) h (mc, ms)) : Call 61 d av h mc ms Rr := call_of2 (k := 61) (own := 7) ((mtb_1 (i := 21) (by decide)).trans rfl) (by decide +kernel) rfl O_eM_stepRunCount K_eM_stepRunCount hl body
/-- method 62: EventStructures.shortestTime(II)I -/
def M_eM_shortestTime : ST := s_seq (s_ast 3 (e_cV va_rf 31 (r_loc 0) (aI1 (i_loc 1) a_nil)))
 (s_seq (s_if (c_nul true (r_loc 3)) (s_retI (i_const (-1))))
 (s_retI (e_cond (c_b (e_cV Value.int 41 (r_loc 3) (aI1 (i_loc 2) a_nil))) (e_cS Value.int 67 (aL1 (e_cV Value.long 63 (r_loc 3) (aI1 (i_loc 2) a_nil)) a_nil)) (i_const (-5)))))
theorem O_eM_shortestTime : OKS M_eM_shortestTime := OK_seq (OK_ast (OK_cV (OK_rloc _) (OK_aI (OK_iloc _) OK_anil))) (OK_seq (OK_sif (OK_nul (OK_rloc _)) (OK_retI (OK_const _))) (OK_retI (OK_econd (OK_if (OK_cV (OK_rloc _) (OK_aI (OK_iloc _) OK_anil))) (OK_cS (OK_aL (OK_cV (OK_rloc _) (OK_aI (OK_iloc _) OK_anil)) OK_anil)) (OK_const _))))
theorem K_eM_shortestTime : M_eM_shortestTime.1 (7, (kini 1), prog_1_method_24_code, some (.int), 4) 0 = some (34, false, []) := by decide +kernel
theorem C_eM_shortestTime {d mc ms : Nat} {av : List Value} {h : FH} {Rr : Option Value → FH → Prop} (hl : (lg_sl av).length ≤ 4) (body : ∀ g : GE, g.1 = d → M_eM_shortestTime.2 g (fun _ _ _ => False) Rr (eent 4 av) h (mc, ms)) : Call 62 d av h mc ms Rr := call_of2 (k := 62) (own := 7) ((mtb_1 (i := 22) (by decide)).trans rfl) (by decide +kernel) rfl O_eM_shortestTime K_eM_shortestTime hl body
/-- method 63: EventStructures$Space.longestChain(I)J -/
def M_eP_longestChain : ST := s_seq (s_cS 64 (aR1 (r_fld 3 6 (r_loc 0)) (aL1 (l_const 0) a_nil)))
 (s_seq (s_lst 2 (l_const 0))
 (s_seq (s_seq (s_ist 4 (i_const 0))
 (s_whl (c_icmp .lt (i_loc 4) (i_fld 4 5 (r_fld 3 0 (r_loc 0)))) (s_seq (s_seq (s_ist 5 (i_const 0))
 (s_whl (c_icmp .lt (i_loc 5) (i_fld 4 5 (r_fld 3 0 (r_loc 0)))) (s_seq (s_if (c_b (e_cS Value.int 19 (aI1 (i_loc 1) (aI1 (i_loc 5) a_nil)))) (s_seq (s_last (r_fld 3 6 (r_loc 0)) (i_loc 5) (l_add (e_cV Value.long 65 (r_loc 0) (aI1 (i_loc 5) a_nil)) (l_i2l (i_ald (r_fld 4 1 (r_fld 3 0 (r_loc 0))) (i_loc 5)))))
 (s_lst 2 (l_max (l_loc 2) (l_ald (r_fld 3 6 (r_loc 0)) (i_loc 5))))))
 (s_inc 5 1))))
 (s_inc 4 1))))
 (s_retL (l_loc 2))))
theorem O_eP_longestChain : OKS M_eP_longestChain := OK_seq (OK_scS (OK_aR (OK_rfld (OK_rloc _)) (OK_aL (OK_lconst _) OK_anil))) (OK_seq (OK_lst (OK_lconst _)) (OK_seq (OK_seq (OK_ist (OK_const _)) (OK_whl (OK_icmp (OK_iloc _) (OK_ifld (OK_rfld (OK_rloc _)))) (OK_seq (OK_seq (OK_ist (OK_const _)) (OK_whl (OK_icmp (OK_iloc _) (OK_ifld (OK_rfld (OK_rloc _)))) (OK_seq (OK_sif (OK_if (OK_cS (OK_aI (OK_iloc _) (OK_aI (OK_iloc _) OK_anil)))) (OK_seq (OK_slast (OK_rfld (OK_rloc _)) (OK_iloc _) (OK_ladd (OK_cV (OK_rloc _) (OK_aI (OK_iloc _) OK_anil)) (OK_i2l (OK_iald (OK_rfld (OK_rfld (OK_rloc _))) (OK_iloc _))))) (OK_lst (OK_lmax (OK_lloc _) (OK_lald (OK_rfld (OK_rloc _)) (OK_iloc _)))))) OK_inc))) OK_inc))) (OK_retL (OK_lloc _))))
theorem K_eP_longestChain : M_eP_longestChain.1 (3, (kini 1), prog_5_method_18_code, some (.long), 6) 0 = some (100, false, []) := by decide +kernel
theorem C_eP_longestChain {d mc ms : Nat} {av : List Value} {h : FH} {Rr : Option Value → FH → Prop} (hl : (lg_sl av).length ≤ 6) (body : ∀ g : GE, g.1 = d → M_eP_longestChain.2 g (fun _ _ _ => False) Rr (eent 6 av) h (mc, ms)) : Call 63 d av h mc ms Rr := call_of2 (k := 63) (own := 3) ((mtb_1 (i := 23) (by decide)).trans rfl) (by decide +kernel) rfl O_eP_longestChain K_eP_longestChain hl body
/-- method 65: EventStructures$Space.longestBefore(I)J -/
def M_eP_longestBefore : ST := s_seq (s_lst 2 (l_const 0))
 (s_seq (s_seq (s_ist 4 (i_const 0))
 (s_whl (c_icmp .lt (i_loc 4) (i_fld 4 5 (r_fld 3 0 (r_loc 0)))) (s_seq (s_lst 2 (e_cond (c_b (e_cS Value.int 19 (aI1 (i_ald (r_fld 4 2 (r_fld 3 0 (r_loc 0))) (i_loc 1)) (aI1 (i_loc 4) a_nil)))) (l_max (l_loc 2) (l_ald (r_fld 3 6 (r_loc 0)) (i_loc 4))) (l_loc 2)))
 (s_inc 4 1))))
 (s_retL (l_loc 2)))
theorem O_eP_longestBefore : OKS M_eP_longestBefore := OK_seq (OK_lst (OK_lconst _)) (OK_seq (OK_seq (OK_ist (OK_const _)) (OK_whl (OK_icmp (OK_iloc _) (OK_ifld (OK_rfld (OK_rloc _)))) (OK_seq (OK_lst (OK_econd (OK_if (OK_cS (OK_aI (OK_iald (OK_rfld (OK_rfld (OK_rloc _))) (OK_iloc _)) (OK_aI (OK_iloc _) OK_anil)))) (OK_lmax (OK_lloc _) (OK_lald (OK_rfld (OK_rloc _)) (OK_iloc _))) (OK_lloc _))) OK_inc))) (OK_retL (OK_lloc _)))
theorem K_eP_longestBefore : M_eP_longestBefore.1 (3, (kini 1), prog_5_method_19_code, some (.long), 5) 0 = some (58, false, []) := by decide +kernel
theorem C_eP_longestBefore {d mc ms : Nat} {av : List Value} {h : FH} {Rr : Option Value → FH → Prop} (hl : (lg_sl av).length ≤ 5) (body : ∀ g : GE, g.1 = d → M_eP_longestBefore.2 g (fun _ _ _ => False) Rr (eent 5 av) h (mc, ms)) : Call 65 d av h mc ms Rr := call_of2 (k := 65) (own := 3) ((mtb_1 (i := 25) (by decide)).trans rfl) (by decide +kernel) rfl O_eP_longestBefore K_eP_longestBefore hl body
/-- method 67: EventStructures.asTime(J)I -/
def M_eM_asTime : ST := s_retI (e_cond (c_lcmp .gt (l_loc 0) (l_const 2147483647)) (i_const (-8)) (i_l2i (l_loc 0)))
theorem O_eM_asTime : OKS M_eM_asTime := OK_retI (OK_econd (OK_lcmp (OK_lloc _) (OK_lconst _)) (OK_const _) (OK_l2i (OK_lloc _)))
theorem K_eM_asTime : M_eM_asTime.1 (7, (kini 0), prog_1_method_51_code, some (.int), 2) 0 = some (16, false, []) := by decide +kernel
theorem C_eM_asTime {d mc ms : Nat} {av : List Value} {h : FH} {Rr : Option Value → FH → Prop} (hl : (lg_sl av).length ≤ 2) (body : ∀ g : GE, g.1 = d → M_eM_asTime.2 g (fun _ _ _ => False) Rr (eent 2 av) h (mc, ms)) : Call 67 d av h mc ms Rr := call_of2 (k := 67) (own := 7) ((mtb_1 (i := 27) (by decide)).trans rfl) (by decide +kernel) rfl O_eM_asTime K_eM_asTime hl body
/-- method 68: EventStructures.totalTime(II)I -/
def M_eM_totalTime : ST := s_seq (s_ast 3 (e_cV va_rf 31 (r_loc 0) (aI1 (i_loc 1) a_nil)))
 (s_seq (s_if (c_nul true (r_loc 3)) (s_retI (i_const (-1))))
 (s_retI (e_cond (c_b (e_cV Value.int 41 (r_loc 3) (aI1 (i_loc 2) a_nil))) (e_cS Value.int 67 (aL1 (e_cV Value.long 69 (r_loc 3) (aI1 (i_loc 2) a_nil)) a_nil)) (i_const (-5)))))
theorem O_eM_totalTime : OKS M_eM_totalTime := OK_seq (OK_ast (OK_cV (OK_rloc _) (OK_aI (OK_iloc _) OK_anil))) (OK_seq (OK_sif (OK_nul (OK_rloc _)) (OK_retI (OK_const _))) (OK_retI (OK_econd (OK_if (OK_cV (OK_rloc _) (OK_aI (OK_iloc _) OK_anil))) (OK_cS (OK_aL (OK_cV (OK_rloc _) (OK_aI (OK_iloc _) OK_anil)) OK_anil)) (OK_const _))))
theorem K_eM_totalTime : M_eM_totalTime.1 (7, (kini 1), prog_1_method_25_code, some (.int), 4) 0 = some (34, false, []) := by decide +kernel
theorem C_eM_totalTime {d mc ms : Nat} {av : List Value} {h : FH} {Rr : Option Value → FH → Prop} (hl : (lg_sl av).length ≤ 4) (body : ∀ g : GE, g.1 = d → M_eM_totalTime.2 g (fun _ _ _ => False) Rr (eent 4 av) h (mc, ms)) : Call 68 d av h mc ms Rr := call_of2 (k := 68) (own := 7) ((mtb_1 (i := 28) (by decide)).trans rfl) (by decide +kernel) rfl O_eM_totalTime K_eM_totalTime hl body
/-- method 69: EventStructures$Space.sumOfDurations(I)J -/
def M_eP_sumOfDurations : ST := s_seq (s_lst 2 (l_const 0))
 (s_seq (s_seq (s_ist 4 (i_const 0))
 (s_whl (c_icmp .lt (i_loc 4) (i_fld 4 5 (r_fld 3 0 (r_loc 0)))) (s_seq (s_lst 2 (l_add (l_loc 2) (e_cond (c_b (e_cS Value.int 19 (aI1 (i_loc 1) (aI1 (i_loc 4) a_nil)))) (l_i2l (i_ald (r_fld 4 1 (r_fld 3 0 (r_loc 0))) (i_loc 4))) (l_const 0))))
 (s_inc 4 1))))
 (s_retL (l_loc 2)))
theorem O_eP_sumOfDurations : OKS M_eP_sumOfDurations := OK_seq (OK_lst (OK_lconst _)) (OK_seq (OK_seq (OK_ist (OK_const _)) (OK_whl (OK_icmp (OK_iloc _) (OK_ifld (OK_rfld (OK_rloc _)))) (OK_seq (OK_lst (OK_ladd (OK_lloc _) (OK_econd (OK_if (OK_cS (OK_aI (OK_iloc _) (OK_aI (OK_iloc _) OK_anil)))) (OK_i2l (OK_iald (OK_rfld (OK_rfld (OK_rloc _))) (OK_iloc _))) (OK_lconst _)))) OK_inc))) (OK_retL (OK_lloc _)))
theorem K_eP_sumOfDurations : M_eP_sumOfDurations.1 (3, (kini 1), prog_5_method_17_code, some (.long), 5) 0 = some (52, false, []) := by decide +kernel
theorem C_eP_sumOfDurations {d mc ms : Nat} {av : List Value} {h : FH} {Rr : Option Value → FH → Prop} (hl : (lg_sl av).length ≤ 5) (body : ∀ g : GE, g.1 = d → M_eP_sumOfDurations.2 g (fun _ _ _ => False) Rr (eent 5 av) h (mc, ms)) : Call 69 d av h mc ms Rr := call_of2 (k := 69) (own := 3) ((mtb_1 (i := 29) (by decide)).trans rfl) (by decide +kernel) rfl O_eP_sumOfDurations K_eP_sumOfDurations hl body
/-- method 70: EventStructures.occur(II)I -/
def M_eM_occur : ST := s_seq (s_ast 3 (e_cV va_rf 31 (r_loc 0) (aI1 (i_loc 1) a_nil)))
 (s_seq (s_if (c_or (c_nul true (r_loc 3)) (c_not (c_b (e_cV Value.int 14 (r_fld 3 0 (r_loc 3)) (aI1 (i_loc 2) a_nil))))) (s_retI (i_const (-1))))
 (s_seq (s_if (c_not (c_b (e_cS Value.int 19 (aI1 (e_cV Value.int 52 (r_loc 3) (aI1 (i_fld 4 6 (r_fld 3 0 (r_loc 3))) a_nil)) (aI1 (i_loc 2) a_nil))))) (s_retI (i_const (-5))))
 (s_seq (s_opf 4 6 .ior (fun x y => x ||| y) (r_fld 3 0 (r_loc 3)) (i_shl (i_const 1) (i_loc 2)))
 (s_retI (i_fld 4 6 (r_fld 3 0 (r_loc 3)))))))
theorem O_eM_occur : OKS M_eM_occur := OK_seq (OK_ast (OK_cV (OK_rloc _) (OK_aI (OK_iloc _) OK_anil))) (OK_seq (OK_sif (OK_cor (OK_nul (OK_rloc _)) (OK_not (OK_if (OK_cV (OK_rfld (OK_rloc _)) (OK_aI (OK_iloc _) OK_anil))))) (OK_retI (OK_const _))) (OK_seq (OK_sif (OK_not (OK_if (OK_cS (OK_aI (OK_cV (OK_rloc _) (OK_aI (OK_ifld (OK_rfld (OK_rloc _))) OK_anil)) (OK_aI (OK_iloc _) OK_anil))))) (OK_retI (OK_const _))) (OK_seq (OK_opf (by simp) (fun K pc env st h bd x y X hd k => J_ior X hd k) (OK_rfld (OK_rloc _)) (OK_shl (OK_const _) (OK_iloc _))) (OK_retI (OK_ifld (OK_rfld (OK_rloc _)))))))
theorem K_eM_occur : M_eM_occur.1 (7, (kini 1), prog_1_method_26_code, some (.int), 4) 0 = some (67, false, []) := by decide +kernel
theorem C_eM_occur {d mc ms : Nat} {av : List Value} {h : FH} {Rr : Option Value → FH → Prop} (hl : (lg_sl av).length ≤ 4) (body : ∀ g : GE, g.1 = d → M_eM_occur.2 g (fun _ _ _ => False) Rr (eent 4 av) h (mc, ms)) : Call 70 d av h mc ms Rr := call_of2 (k := 70) (own := 7) ((mtb_1 (i := 30) (by decide)).trans rfl) (by decide +kernel) rfl O_eM_occur K_eM_occur hl body
/-- method 71: EventStructures.withdraw(II)I -/
def M_eM_withdraw : ST := s_seq (s_ast 3 (e_cV va_rf 31 (r_loc 0) (aI1 (i_loc 1) a_nil)))
 (s_seq (s_if (c_or (c_nul true (r_loc 3)) (c_not (c_b (e_cV Value.int 14 (r_fld 3 0 (r_loc 3)) (aI1 (i_loc 2) a_nil))))) (s_retI (i_const (-1))))
 (s_seq (s_ist 4 (i_and (i_fld 4 6 (r_fld 3 0 (r_loc 3))) (i_xor (i_shl (i_const 1) (i_loc 2)) (i_const (-1)))))
 (s_seq (s_if (c_or (c_not (c_b (e_cS Value.int 19 (aI1 (i_fld 4 6 (r_fld 3 0 (r_loc 3))) (aI1 (i_loc 2) a_nil))))) (c_not (c_b (e_cV Value.int 41 (r_loc 3) (aI1 (i_loc 4) a_nil))))) (s_retI (i_const (-5))))
 (s_seq (s_putI 4 6 (r_fld 3 0 (r_loc 3)) (i_loc 4))
 (s_retI (i_loc 4))))))
theorem O_eM_withdraw : OKS M_eM_withdraw := OK_seq (OK_ast (OK_cV (OK_rloc _) (OK_aI (OK_iloc _) OK_anil))) (OK_seq (OK_sif (OK_cor (OK_nul (OK_rloc _)) (OK_not (OK_if (OK_cV (OK_rfld (OK_rloc _)) (OK_aI (OK_iloc _) OK_anil))))) (OK_retI (OK_const _))) (OK_seq (OK_ist (OK_and (OK_ifld (OK_rfld (OK_rloc _))) (OK_xor (OK_shl (OK_const _) (OK_iloc _)) (OK_const _)))) (OK_seq (OK_sif (OK_cor (OK_not (OK_if (OK_cS (OK_aI (OK_ifld (OK_rfld (OK_rloc _))) (OK_aI (OK_iloc _) OK_anil))))) (OK_not (OK_if (OK_cV (OK_rloc _) (OK_aI (OK_iloc _) OK_anil))))) (OK_retI (OK_const _))) (OK_seq (OK_putI (OK_rfld (OK_rloc _)) (OK_iloc _)) (OK_retI (OK_iloc _))))))
theorem K_eM_withdraw : M_eM_withdraw.1 (7, (kini 1), prog_1_method_27_code, some (.int), 5) 0 = some (76, false, []) := by decide +kernel
theorem C_eM_withdraw {d mc ms : Nat} {av : List Value} {h : FH} {Rr : Option Value → FH → Prop} (hl : (lg_sl av).length ≤ 5) (body : ∀ g : GE, g.1 = d → M_eM_withdraw.2 g (fun _ _ _ => False) Rr (eent 5 av) h (mc, ms)) : Call 71 d av h mc ms Rr := call_of2 (k := 71) (own := 7) ((mtb_1 (i := 31) (by decide)).trans rfl) (by decide +kernel) rfl O_eM_withdraw K_eM_withdraw hl body
/-- method 72: EventStructures.current(I)I -/
def M_eM_current : ST := s_seq (s_ast 2 (e_cV va_rf 9 (r_loc 0) (aI1 (i_loc 1) a_nil)))
 (s_retI (e_cond (c_nul true (r_loc 2)) (i_const (-1)) (i_fld 4 6 (r_loc 2))))
theorem O_eM_current : OKS M_eM_current := OK_seq (OK_ast (OK_cV (OK_rloc _) (OK_aI (OK_iloc _) OK_anil))) (OK_retI (OK_econd (OK_nul (OK_rloc _)) (OK_const _) (OK_ifld (OK_rloc _))))
theorem K_eM_current : M_eM_current.1 (7, (kini 1), prog_1_method_28_code, some (.int), 3) 0 = some (19, false, []) := by decide +kernel
theorem C_eM_current {d mc ms : Nat} {av : List Value} {h : FH} {Rr : Option Value → FH → Prop} (hl : (lg_sl av).length ≤ 3) (body : ∀ g : GE, g.1 = d → M_eM_current.2 g (fun _ _ _ => False) Rr (eent 3 av) h (mc, ms)) : Call 72 d av h mc ms Rr := call_of2 (k := 72) (own := 7) ((mtb_1 (i := 32) (by decide)).trans rfl) (by decide +kernel) rfl O_eM_current K_eM_current hl body
/-- method 73: EventStructures.areBisimilar(I)I -/
def M_eM_areBisimilar : ST := s_seq (s_if (c_not (c_b (e_cS Value.int 74 (aI1 (i_loc 1) a_nil)))) (s_retI (i_const (-2))))
 (s_retI (e_cond (c_if .eq (e_cV Value.int 75 (r_fld 7 7 (r_loc 0)) (aI1 (i_loc 1) a_nil))) (i_const 1) (i_const 0)))
theorem O_eM_areBisimilar : OKS M_eM_areBisimilar := OK_seq (OK_sif (OK_not (OK_if (OK_cS (OK_aI (OK_iloc _) OK_anil)))) (OK_retI (OK_const _))) (OK_retI (OK_econd (OK_if (OK_cV (OK_rfld (OK_rloc _)) (OK_aI (OK_iloc _) OK_anil))) (OK_const _) (OK_const _)))
theorem K_eM_areBisimilar : M_eM_areBisimilar.1 (7, (kini 1), prog_1_method_29_code, some (.int), 2) 0 = some (27, false, []) := by decide +kernel
theorem C_eM_areBisimilar {d mc ms : Nat} {av : List Value} {h : FH} {Rr : Option Value → FH → Prop} (hl : (lg_sl av).length ≤ 2) (body : ∀ g : GE, g.1 = d → M_eM_areBisimilar.2 g (fun _ _ _ => False) Rr (eent 2 av) h (mc, ms)) : Call 73 d av h mc ms Rr := call_of2 (k := 73) (own := 7) ((mtb_1 (i := 33) (by decide)).trans rfl) (by decide +kernel) rfl O_eM_areBisimilar K_eM_areBisimilar hl body
/-- method 74: EventStructures.isKind(I)Z -/
def M_eM_isKind : ST := s_retZ (e_cond (c_or (c_if .eq (i_loc 0)) (c_icmp .eq (i_loc 0) (i_const 1))) (i_const 1) (i_const 0))
theorem O_eM_isKind : OKS M_eM_isKind := OK_retZ (OK_econd (OK_cor (OK_if (OK_iloc _)) (OK_icmp (OK_iloc _) (OK_const _))) (OK_const _) (OK_const _))
theorem K_eM_isKind : M_eM_isKind.1 (7, (kini 0), prog_1_method_49_code, some (.boolean), 1) 0 = some (15, false, []) := by decide +kernel
theorem C_eM_isKind {d mc ms : Nat} {av : List Value} {h : FH} {Rr : Option Value → FH → Prop} (hl : (lg_sl av).length ≤ 1) (body : ∀ g : GE, g.1 = d → M_eM_isKind.2 g (fun _ _ _ => False) Rr (eent 1 av) h (mc, ms)) : Call 74 d av h mc ms Rr := call_of2 (k := 74) (own := 7) ((mtb_1 (i := 34) (by decide)).trans rfl) (by decide +kernel) rfl O_eM_isKind K_eM_isKind hl body
/-- method 86: EventStructures.separationRound(I)I -/
def M_eM_separationRound : ST := s_seq (s_if (c_not (c_b (e_cS Value.int 74 (aI1 (i_loc 1) a_nil)))) (s_retI (i_const (-2))))
 (s_seq (s_ist 2 (e_cV Value.int 75 (r_fld 7 7 (r_loc 0)) (aI1 (i_loc 1) a_nil)))
 (s_retI (e_cond (c_if .eq (i_loc 2)) (i_const (-7)) (i_loc 2))))
theorem O_eM_separationRound : OKS M_eM_separationRound := OK_seq (OK_sif (OK_not (OK_if (OK_cS (OK_aI (OK_iloc _) OK_anil)))) (OK_retI (OK_const _))) (OK_seq (OK_ist (OK_cV (OK_rfld (OK_rloc _)) (OK_aI (OK_iloc _) OK_anil))) (OK_retI (OK_econd (OK_if (OK_iloc _)) (OK_const _) (OK_iloc _))))
theorem K_eM_separationRound : M_eM_separationRound.1 (7, (kini 1), prog_1_method_30_code, some (.int), 3) 0 = some (30, false, []) := by decide +kernel
theorem C_eM_separationRound {d mc ms : Nat} {av : List Value} {h : FH} {Rr : Option Value → FH → Prop} (hl : (lg_sl av).length ≤ 3) (body : ∀ g : GE, g.1 = d → M_eM_separationRound.2 g (fun _ _ _ => False) Rr (eent 3 av) h (mc, ms)) : Call 86 d av h mc ms Rr := call_of2 (k := 86) (own := 7) ((mtb_2 (i := 6) (by decide)).trans rfl) (by decide +kernel) rfl O_eM_separationRound K_eM_separationRound hl body
/-- method 87: EventStructures.equivalenceClasses(I)I -/
def M_eM_equivalenceClasses : ST := s_seq (s_if (c_not (c_b (e_cS Value.int 74 (aI1 (i_loc 1) a_nil)))) (s_retI (i_const (-2))))
 (s_retI (e_cV Value.int 88 (r_fld 7 7 (r_loc 0)) (aI1 (i_loc 1) a_nil)))
theorem O_eM_equivalenceClasses : OKS M_eM_equivalenceClasses := OK_seq (OK_sif (OK_not (OK_if (OK_cS (OK_aI (OK_iloc _) OK_anil)))) (OK_retI (OK_const _))) (OK_retI (OK_cV (OK_rfld (OK_rloc _)) (OK_aI (OK_iloc _) OK_anil)))
theorem K_eM_equivalenceClasses : M_eM_equivalenceClasses.1 (7, (kini 1), prog_1_method_31_code, some (.int), 2) 0 = some (19, false, []) := by decide +kernel
theorem C_eM_equivalenceClasses {d mc ms : Nat} {av : List Value} {h : FH} {Rr : Option Value → FH → Prop} (hl : (lg_sl av).length ≤ 2) (body : ∀ g : GE, g.1 = d → M_eM_equivalenceClasses.2 g (fun _ _ _ => False) Rr (eent 2 av) h (mc, ms)) : Call 87 d av h mc ms Rr := call_of2 (k := 87) (own := 7) ((mtb_2 (i := 7) (by decide)).trans rfl) (by decide +kernel) rfl O_eM_equivalenceClasses K_eM_equivalenceClasses hl body
/-- method 89: EventStructures.wordDifferenceLength()I -/
def M_eM_wordDifferenceLength : ST := s_seq (s_ist 1 (e_cV Value.int 90 (r_fld 7 8 (r_loc 0)) a_nil))
 (s_retI (e_cond (c_if .eq (i_loc 1)) (i_const (-7)) (i_loc 1)))
theorem O_eM_wordDifferenceLength : OKS M_eM_wordDifferenceLength := OK_seq (OK_ist (OK_cV (OK_rfld (OK_rloc _)) OK_anil)) (OK_retI (OK_econd (OK_if (OK_iloc _)) (OK_const _) (OK_iloc _)))
theorem K_eM_wordDifferenceLength : M_eM_wordDifferenceLength.1 (7, (kini 1), prog_1_method_32_code, some (.int), 2) 0 = some (19, false, []) := by decide +kernel
theorem C_eM_wordDifferenceLength {d mc ms : Nat} {av : List Value} {h : FH} {Rr : Option Value → FH → Prop} (hl : (lg_sl av).length ≤ 2) (body : ∀ g : GE, g.1 = d → M_eM_wordDifferenceLength.2 g (fun _ _ _ => False) Rr (eent 2 av) h (mc, ms)) : Call 89 d av h mc ms Rr := call_of2 (k := 89) (own := 7) ((mtb_2 (i := 9) (by decide)).trans rfl) (by decide +kernel) rfl O_eM_wordDifferenceLength K_eM_wordDifferenceLength hl body
/-- method 98: EventStructures.wordDifferenceLabel(I)I -/
def M_eM_wordDifferenceLabel : ST := s_seq (s_if (c_or (c_if .lt (i_loc 1)) (c_icmp .ge (i_loc 1) (e_cV Value.int 90 (r_fld 7 8 (r_loc 0)) a_nil))) (s_retI (i_const (-7))))
 (s_retI (e_cV Value.int 99 (r_fld 7 8 (r_loc 0)) (aI1 (i_loc 1) a_nil)))
theorem O_eM_wordDifferenceLabel : OKS M_eM_wordDifferenceLabel := OK_seq (OK_sif (OK_cor (OK_if (OK_iloc _)) (OK_icmp (OK_iloc _) (OK_cV (OK_rfld (OK_rloc _)) OK_anil))) (OK_retI (OK_const _))) (OK_retI (OK_cV (OK_rfld (OK_rloc _)) (OK_aI (OK_iloc _) OK_anil)))
theorem K_eM_wordDifferenceLabel : M_eM_wordDifferenceLabel.1 (7, (kini 1), prog_1_method_33_code, some (.int), 2) 0 = some (27, false, []) := by decide +kernel
theorem C_eM_wordDifferenceLabel {d mc ms : Nat} {av : List Value} {h : FH} {Rr : Option Value → FH → Prop} (hl : (lg_sl av).length ≤ 2) (body : ∀ g : GE, g.1 = d → M_eM_wordDifferenceLabel.2 g (fun _ _ _ => False) Rr (eent 2 av) h (mc, ms)) : Call 98 d av h mc ms Rr := call_of2 (k := 98) (own := 7) ((mtb_2 (i := 18) (by decide)).trans rfl) (by decide +kernel) rfl O_eM_wordDifferenceLabel K_eM_wordDifferenceLabel hl body
/-- method 100: EventStructures.wordCount(I)I -/
def M_eM_wordCount : ST := s_seq (s_if (c_nul true (e_cV va_rf 9 (r_loc 0) (aI1 (i_loc 1) a_nil))) (s_retI (i_const (-1))))
 (s_retI (e_cV Value.int 101 (r_fld 7 8 (r_loc 0)) (aI1 (i_loc 1) a_nil)))
theorem O_eM_wordCount : OKS M_eM_wordCount := OK_seq (OK_sif (OK_nul (OK_cV (OK_rloc _) (OK_aI (OK_iloc _) OK_anil))) (OK_retI (OK_const _))) (OK_retI (OK_cV (OK_rfld (OK_rloc _)) (OK_aI (OK_iloc _) OK_anil)))
theorem K_eM_wordCount : M_eM_wordCount.1 (7, (kini 1), prog_1_method_34_code, some (.int), 2) 0 = some (19, false, []) := by decide +kernel
theorem C_eM_wordCount {d mc ms : Nat} {av : List Value} {h : FH} {Rr : Option Value → FH → Prop} (hl : (lg_sl av).length ≤ 2) (body : ∀ g : GE, g.1 = d → M_eM_wordCount.2 g (fun _ _ _ => False) Rr (eent 2 av) h (mc, ms)) : Call 100 d av h mc ms Rr := call_of2 (k := 100) (own := 7) ((mtb_2 (i := 20) (by decide)).trans rfl) (by decide +kernel) rfl O_eM_wordCount K_eM_wordCount hl body
/-- method 103: EventStructures.refine(IIIIZ)I -/
def M_eM_refine : ST := s_seq (s_ast 6 (e_cV va_rf 9 (r_loc 0) (aI1 (i_loc 1) a_nil)))
 (s_seq (s_if (c_nul true (r_loc 6)) (s_retI (i_const (-1))))
 (s_seq (s_if (c_or (c_or (c_not (c_b (e_cS Value.int 10 (aI1 (i_loc 2) a_nil)))) (c_not (c_b (e_cS Value.int 10 (aI1 (i_loc 3) a_nil))))) (c_not (c_b (e_cS Value.int 10 (aI1 (i_loc 4) a_nil))))) (s_retI (i_const (-2))))
 (s_seq (s_if (c_not (c_b (e_cV Value.int 104 (r_fld 7 4 (r_loc 0)) (aR1 (r_loc 6) (aI1 (i_loc 2) (aI1 (i_loc 3) (aI1 (i_loc 4) a_nil))))))) (s_retI (i_const (-6))))
 (s_seq (s_if (c_b (i_loc 5)) (s_cV 107 (r_fld 7 4 (r_loc 0)) a_nil))
 (s_seq (s_cV 27 (r_loc 6) (aR1 (r_fld 7 4 (r_loc 0)) a_nil))
 (s_retI (i_fld 4 5 (r_loc 6))))))))
theorem O_eM_refine : OKS M_eM_refine := OK_seq (OK_ast (OK_cV (OK_rloc _) (OK_aI (OK_iloc _) OK_anil))) (OK_seq (OK_sif (OK_nul (OK_rloc _)) (OK_retI (OK_const _))) (OK_seq (OK_sif (OK_cor (OK_cor (OK_not (OK_if (OK_cS (OK_aI (OK_iloc _) OK_anil)))) (OK_not (OK_if (OK_cS (OK_aI (OK_iloc _) OK_anil))))) (OK_not (OK_if (OK_cS (OK_aI (OK_iloc _) OK_anil))))) (OK_retI (OK_const _))) (OK_seq (OK_sif (OK_not (OK_if (OK_cV (OK_rfld (OK_rloc _)) (OK_aR (OK_rloc _) (OK_aI (OK_iloc _) (OK_aI (OK_iloc _) (OK_aI (OK_iloc _) OK_anil))))))) (OK_retI (OK_const _))) (OK_seq (OK_sif (OK_if (OK_iloc _)) (OK_scV (OK_rfld (OK_rloc _)) OK_anil)) (OK_seq (OK_scV (OK_rloc _) (OK_aR (OK_rfld (OK_rloc _)) OK_anil)) (OK_retI (OK_ifld (OK_rloc _))))))))
theorem K_eM_refine : M_eM_refine.1 (7, (kini 1), prog_1_method_35_code, some (.int), 7) 0 = some (85, false, []) := by decide +kernel
theorem C_eM_refine {d mc ms : Nat} {av : List Value} {h : FH} {Rr : Option Value → FH → Prop} (hl : (lg_sl av).length ≤ 7) (body : ∀ g : GE, g.1 = d → M_eM_refine.2 g (fun _ _ _ => False) Rr (eent 7 av) h (mc, ms)) : Call 103 d av h mc ms Rr := call_of2 (k := 103) (own := 7) ((mtb_2 (i := 23) (by decide)).trans rfl) (by decide +kernel) rfl O_eM_refine K_eM_refine hl body
/-- method 104: EventStructures$Structure.becomeRefinement(LEventStructures$Structure;III)Z -/
def M_eS_becomeRefinement : ST := s_seq (s_cV 25 (r_loc 0) a_nil)
 (s_seq (s_seq (s_ist 5 (i_const 0))
 (s_whl (c_icmp .lt (i_loc 5) (i_fld 4 5 (r_loc 1))) (s_seq (s_seq (s_ist 6 (e_cond (c_icmp .eq (i_ald (r_fld 4 0 (r_loc 1)) (i_loc 5)) (i_loc 2)) (i_const 1) (i_const 0)))
 (s_if (c_or (c_not (c_b (e_cV Value.int 105 (r_loc 0) (aR1 (r_loc 1) (aI1 (i_loc 5) (aI1 (e_cond (c_b (i_loc 6)) (i_loc 3) (i_ald (r_fld 4 0 (r_loc 1)) (i_loc 5))) a_nil)))))) (c_and (c_b (i_loc 6)) (c_not (c_b (e_cV Value.int 105 (r_loc 0) (aR1 (r_loc 1) (aI1 (i_loc 5) (aI1 (i_loc 4) a_nil)))))))) (s_retZ (i_const 0))))
 (s_inc 5 1))))
 (s_seq (s_seq (s_ist 5 (i_const 0))
 (s_whl (c_icmp .lt (i_loc 5) (i_fld 4 5 (r_loc 0))) (s_seq (s_seq (s_iast (r_fld 4 2 (r_loc 0)) (i_loc 5) (e_cV Value.int 106 (r_loc 0) (aI1 (i_ald (r_fld 4 2 (r_loc 1)) (i_ald (r_fld 4 4 (r_loc 0)) (i_loc 5))) a_nil)))
 (s_iast (r_fld 4 3 (r_loc 0)) (i_loc 5) (e_cV Value.int 106 (r_loc 0) (aI1 (i_ald (r_fld 4 3 (r_loc 1)) (i_ald (r_fld 4 4 (r_loc 0)) (i_loc 5))) a_nil))))
 (s_inc 5 1))))
 (s_retZ (i_const 1))))
theorem O_eS_becomeRefinement : OKS M_eS_becomeRefinement := OK_seq (OK_scV (OK_rloc _) OK_anil) (OK_seq (OK_seq (OK_ist (OK_const _)) (OK_whl (OK_icmp (OK_iloc _) (OK_ifld (OK_rloc _))) (OK_seq (OK_seq (OK_ist (OK_econd (OK_icmp (OK_iald (OK_rfld (OK_rloc _)) (OK_iloc _)) (OK_iloc _)) (OK_const _) (OK_const _))) (OK_sif (OK_cor (OK_not (OK_if (OK_cV (OK_rloc _) (OK_aR (OK_rloc _) (OK_aI (OK_iloc _) (OK_aI (OK_econd (OK_if (OK_iloc _)) (OK_iloc _) (OK_iald (OK_rfld (OK_rloc _)) (OK_iloc _))) OK_anil)))))) (OK_cand (OK_if (OK_iloc _)) (OK_not (OK_if (OK_cV (OK_rloc _) (OK_aR (OK_rloc _) (OK_aI (OK_iloc _) (OK_aI (OK_iloc _) OK_anil)))))))) (OK_retZ (OK_const _)))) OK_inc))) (OK_seq (OK_seq (OK_ist (OK_const _)) (OK_whl (OK_icmp (OK_iloc _) (OK_ifld (OK_rloc _))) (OK_seq (OK_seq (OK_siast (OK_rfld (OK_rloc _)) (OK_iloc _) (OK_cV (OK_rloc _) (OK_aI (OK_iald (OK_rfld (OK_rloc _)) (OK_iald (OK_rfld (OK_rloc _)) (OK_iloc _))) OK_anil))) (OK_siast (OK_rfld (OK_rloc _)) (OK_iloc _) (OK_cV (OK_rloc _) (OK_aI (OK_iald (OK_rfld (OK_rloc _)) (OK_iald (OK_rfld (OK_rloc _)) (OK_iloc _))) OK_anil)))) OK_inc))) (OK_retZ (OK_const _))))
theorem K_eS_becomeRefinement : M_eS_becomeRefinement.1 (4, (kini 1), prog_6_method_14_code, some (.boolean), 7) 0 = some (151, false, []) := by decide +kernel
theorem C_eS_becomeRefinement {d mc ms : Nat} {av : List Value} {h : FH} {Rr : Option Value → FH → Prop} (hl : (lg_sl av).length ≤ 7) (body : ∀ g : GE, g.1 = d → M_eS_becomeRefinement.2 g (fun _ _ _ => False) Rr (eent 7 av) h (mc, ms)) : Call 104 d av h mc ms Rr := call_of2 (k := 104) (own := 4) ((mtb_2 (i := 24) (by decide)).trans rfl) (by decide +kernel) rfl O_eS_becomeRefinement K_eS_becomeRefinement hl body
/-- method 105: EventStructures$Structure.addFor(LEventStructures$Structure;II)Z -/
def M_eS_addFor : ST := s_seq (s_ist 4 (e_cV Value.int 11 (r_loc 0) (aI1 (i_loc 3) (aI1 (i_ald (r_fld 4 1 (r_loc 1)) (i_loc 2)) a_nil))))
 (s_seq (s_if (c_if .lt (i_loc 4)) (s_retZ (i_const 0)))
 (s_seq (s_iast (r_fld 4 4 (r_loc 0)) (i_loc 4) (i_loc 2))
 (s_retZ (i_const 1))))
theorem O_eS_addFor : OKS M_eS_addFor := OK_seq (OK_ist (OK_cV (OK_rloc _) (OK_aI (OK_iloc _) (OK_aI (OK_iald (OK_rfld (OK_rloc _)) (OK_iloc _)) OK_anil)))) (OK_seq (OK_sif (OK_if (OK_iloc _)) (OK_retZ (OK_const _))) (OK_seq (OK_siast (OK_rfld (OK_rloc _)) (OK_iloc _) (OK_iloc _)) (OK_retZ (OK_const _))))
theorem K_eS_addFor : M_eS_addFor.1 (4, (kini 1), prog_6_method_15_code, some (.boolean), 5) 0 = some (30, false, []) := by decide +kernel
theorem C_eS_addFor {d mc ms : Nat} {av : List Value} {h : FH} {Rr : Option Value → FH → Prop} (hl : (lg_sl av).length ≤ 5) (body : ∀ g : GE, g.1 = d → M_eS_addFor.2 g (fun _ _ _ => False) Rr (eent 5 av) h (mc, ms)) : Call 105 d av h mc ms Rr := call_of2 (k := 105) (own := 4) ((mtb_2 (i := 25) (by decide)).trans rfl) (by decide +kernel) rfl O_eS_addFor K_eS_addFor hl body
/-- method 106: EventStructures$Structure.spread(I)I -/
def M_eS_spread : ST := s_seq (s_ist 2 (i_const 0))
 (s_seq (s_seq (s_ist 3 (i_const 0))
 (s_whl (c_icmp .lt (i_loc 3) (i_fld 4 5 (r_loc 0))) (s_seq (s_ist 2 (i_or (i_loc 2) (e_cond (c_b (e_cS Value.int 19 (aI1 (i_loc 1) (aI1 (i_ald (r_fld 4 4 (r_loc 0)) (i_loc 3)) a_nil)))) (i_shl (i_const 1) (i_loc 3)) (i_const 0))))
 (s_inc 3 1))))
 (s_retI (i_loc 2)))
theorem O_eS_spread : OKS M_eS_spread := OK_seq (OK_ist (OK_const _)) (OK_seq (OK_seq (OK_ist (OK_const _)) (OK_whl (OK_icmp (OK_iloc _) (OK_ifld (OK_rloc _))) (OK_seq (OK_ist (OK_or (OK_iloc _) (OK_econd (OK_if (OK_cS (OK_aI (OK_iloc _) (OK_aI (OK_iald (OK_rfld (OK_rloc _)) (OK_iloc _)) OK_anil)))) (OK_shl (OK_const _) (OK_iloc _)) (OK_const _)))) OK_inc))) (OK_retI (OK_iloc _)))
theorem K_eS_spread : M_eS_spread.1 (4, (kini 1), prog_6_method_16_code, some (.int), 4) 0 = some (43, false, []) := by decide +kernel
theorem C_eS_spread {d mc ms : Nat} {av : List Value} {h : FH} {Rr : Option Value → FH → Prop} (hl : (lg_sl av).length ≤ 4) (body : ∀ g : GE, g.1 = d → M_eS_spread.2 g (fun _ _ _ => False) Rr (eent 4 av) h (mc, ms)) : Call 106 d av h mc ms Rr := call_of2 (k := 106) (own := 4) ((mtb_2 (i := 26) (by decide)).trans rfl) (by decide +kernel) rfl O_eS_spread K_eS_spread hl body
/-- method 107: EventStructures$Structure.orderTwins()V -/
def M_eS_orderTwins : ST := s_seq (s_seq (s_ist 1 (i_const 1))
 (s_whl (c_icmp .lt (i_loc 1) (i_fld 4 5 (r_loc 0))) (s_seq (s_if (c_icmp .eq (i_ald (r_fld 4 4 (r_loc 0)) (i_loc 1)) (i_ald (r_fld 4 4 (r_loc 0)) (i_sub (i_loc 1) (i_const 1)))) (s_opaI .ior (fun x y => x ||| y) (r_fld 4 2 (r_loc 0)) (i_loc 1) (i_shl (i_const 1) (i_sub (i_loc 1) (i_const 1)))))
 (s_inc 1 1))))
 s_ret
theorem O_eS_orderTwins : OKS M_eS_orderTwins := OK_seq (OK_seq (OK_ist (OK_const _)) (OK_whl (OK_icmp (OK_iloc _) (OK_ifld (OK_rloc _))) (OK_seq (OK_sif (OK_icmp (OK_iald (OK_rfld (OK_rloc _)) (OK_iloc _)) (OK_iald (OK_rfld (OK_rloc _)) (OK_sub (OK_iloc _) (OK_const _)))) (OK_opaI (by simp) (fun K pc env st h bd x y X hd k => J_ior X hd k) (OK_rfld (OK_rloc _)) (OK_iloc _) (OK_shl (OK_const _) (OK_sub (OK_iloc _) (OK_const _))))) OK_inc))) OK_ret
theorem K_eS_orderTwins : M_eS_orderTwins.1 (4, (kini 1), prog_6_method_17_code, none, 2) 0 = some (48, false, []) := by decide +kernel
theorem C_eS_orderTwins {d mc ms : Nat} {av : List Value} {h : FH} {Rr : Option Value → FH → Prop} (hl : (lg_sl av).length ≤ 2) (body : ∀ g : GE, g.1 = d → M_eS_orderTwins.2 g (fun _ _ _ => False) Rr (eent 2 av) h (mc, ms)) : Call 107 d av h mc ms Rr := call_of2 (k := 107) (own := 4) ((mtb_2 (i := 27) (by decide)).trans rfl) (by decide +kernel) rfl O_eS_orderTwins K_eS_orderTwins hl body
/-- method 108: EventStructures.clearNet()I -/
def M_eM_clearNet : ST := s_seq (s_ist 1 (i_fld 2 0 (r_fld 7 9 (r_loc 0))))
 (s_seq (s_cV 109 (r_fld 7 9 (r_loc 0)) a_nil)
 (s_retI (i_loc 1)))
theorem O_eM_clearNet : OKS M_eM_clearNet := OK_seq (OK_ist (OK_ifld (OK_rfld (OK_rloc _)))) (OK_seq (OK_scV (OK_rfld (OK_rloc _)) OK_anil) (OK_retI (OK_iloc _)))
theorem K_eM_clearNet : M_eM_clearNet.1 (7, (kini 1), prog_1_method_36_code, some (.int), 2) 0 = some (17, false, []) := by decide +kernel
theorem C_eM_clearNet {d mc ms : Nat} {av : List Value} {h : FH} {Rr : Option Value → FH → Prop} (hl : (lg_sl av).length ≤ 2) (body : ∀ g : GE, g.1 = d → M_eM_clearNet.2 g (fun _ _ _ => False) Rr (eent 2 av) h (mc, ms)) : Call 108 d av h mc ms Rr := call_of2 (k := 108) (own := 7) ((mtb_2 (i := 28) (by decide)).trans rfl) (by decide +kernel) rfl O_eM_clearNet K_eM_clearNet hl body
/-- method 110: EventStructures.addPlace(Z)I -/
def M_eM_addPlace : ST := s_retI (e_cV Value.int 111 (r_fld 7 9 (r_loc 0)) (aI1 (i_loc 1) a_nil))
theorem O_eM_addPlace : OKS M_eM_addPlace := OK_retI (OK_cV (OK_rfld (OK_rloc _)) (OK_aI (OK_iloc _) OK_anil))
theorem K_eM_addPlace : M_eM_addPlace.1 (7, (kini 1), prog_1_method_37_code, some (.int), 2) 0 = some (9, false, []) := by decide +kernel
theorem C_eM_addPlace {d mc ms : Nat} {av : List Value} {h : FH} {Rr : Option Value → FH → Prop} (hl : (lg_sl av).length ≤ 2) (body : ∀ g : GE, g.1 = d → M_eM_addPlace.2 g (fun _ _ _ => False) Rr (eent 2 av) h (mc, ms)) : Call 110 d av h mc ms Rr := call_of2 (k := 110) (own := 7) ((mtb_2 (i := 30) (by decide)).trans rfl) (by decide +kernel) rfl O_eM_addPlace K_eM_addPlace hl body
/-- method 112: EventStructures.addTransition(III)I -/
def M_eM_addTransition : ST := s_seq (s_if (c_or (c_not (c_b (e_cV Value.int 113 (r_fld 7 9 (r_loc 0)) (aI1 (i_loc 1) a_nil)))) (c_not (c_b (e_cV Value.int 113 (r_fld 7 9 (r_loc 0)) (aI1 (i_loc 2) a_nil))))) (s_retI (i_const (-1))))
 (s_seq (s_if (c_or (c_if .eq (i_loc 1)) (c_not (c_b (e_cS Value.int 10 (aI1 (i_loc 3) a_nil))))) (s_retI (i_const (-2))))
 (s_retI (e_cV Value.int 114 (r_fld 7 9 (r_loc 0)) (aI1 (i_loc 1) (aI1 (i_loc 2) (aI1 (i_loc 3) a_nil))))))
theorem O_eM_addTransition : OKS M_eM_addTransition := OK_seq (OK_sif (OK_cor (OK_not (OK_if (OK_cV (OK_rfld (OK_rloc _)) (OK_aI (OK_iloc _) OK_anil)))) (OK_not (OK_if (OK_cV (OK_rfld (OK_rloc _)) (OK_aI (OK_iloc _) OK_anil))))) (OK_retI (OK_const _))) (OK_seq (OK_sif (OK_cor (OK_if (OK_iloc _)) (OK_not (OK_if (OK_cS (OK_aI (OK_iloc _) OK_anil))))) (OK_retI (OK_const _))) (OK_retI (OK_cV (OK_rfld (OK_rloc _)) (OK_aI (OK_iloc _) (OK_aI (OK_iloc _) (OK_aI (OK_iloc _) OK_anil))))))
theorem K_eM_addTransition : M_eM_addTransition.1 (7, (kini 1), prog_1_method_38_code, some (.int), 4) 0 = some (49, false, []) := by decide +kernel
theorem C_eM_addTransition {d mc ms : Nat} {av : List Value} {h : FH} {Rr : Option Value → FH → Prop} (hl : (lg_sl av).length ≤ 4) (body : ∀ g : GE, g.1 = d → M_eM_addTransition.2 g (fun _ _ _ => False) Rr (eent 4 av) h (mc, ms)) : Call 112 d av h mc ms Rr := call_of2 (k := 112) (own := 7) ((mtb_2 (i := 32) (by decide)).trans rfl) (by decide +kernel) rfl O_eM_addTransition K_eM_addTransition hl body
/-- method 115: EventStructures.unfold(I)I -/
def M_eM_unfold : ST := s_seq (s_ast 2 (e_cV va_rf 9 (r_loc 0) (aI1 (i_loc 1) a_nil)))
 (s_seq (s_if (c_nul true (r_loc 2)) (s_retI (i_const (-1))))
 (s_seq (s_if (c_not (c_b (e_cV Value.int 116 (r_fld 7 11 (r_loc 0)) (aR1 (r_fld 7 9 (r_loc 0)) a_nil)))) (s_retI (i_const (-6))))
 (s_seq (s_cV 27 (r_loc 2) (aR1 (r_fld 5 0 (r_fld 7 11 (r_loc 0))) a_nil))
 (s_seq (s_putI 7 14 (r_loc 0) (i_fld 5 1 (r_fld 7 11 (r_loc 0))))
 (s_retI (i_fld 4 5 (r_loc 2)))))))
theorem O_eM_unfold : OKS M_eM_unfold := OK_seq (OK_ast (OK_cV (OK_rloc _) (OK_aI (OK_iloc _) OK_anil))) (OK_seq (OK_sif (OK_nul (OK_rloc _)) (OK_retI (OK_const _))) (OK_seq (OK_sif (OK_not (OK_if (OK_cV (OK_rfld (OK_rloc _)) (OK_aR (OK_rfld (OK_rloc _)) OK_anil)))) (OK_retI (OK_const _))) (OK_seq (OK_scV (OK_rloc _) (OK_aR (OK_rfld (OK_rfld (OK_rloc _))) OK_anil)) (OK_seq (OK_putI (OK_rloc _) (OK_ifld (OK_rfld (OK_rloc _)))) (OK_retI (OK_ifld (OK_rloc _)))))))
theorem K_eM_unfold : M_eM_unfold.1 (7, (kini 1), prog_1_method_39_code, some (.int), 3) 0 = some (56, false, []) := by decide +kernel
theorem C_eM_unfold {d mc ms : Nat} {av : List Value} {h : FH} {Rr : Option Value → FH → Prop} (hl : (lg_sl av).length ≤ 3) (body : ∀ g : GE, g.1 = d → M_eM_unfold.2 g (fun _ _ _ => False) Rr (eent 3 av) h (mc, ms)) : Call 115 d av h mc ms Rr := call_of2 (k := 115) (own := 7) ((mtb_2 (i := 35) (by decide)).trans rfl) (by decide +kernel) rfl O_eM_unfold K_eM_unfold hl body
/-- method 124: EventStructures.conditionCount()I -/
def M_eM_conditionCount : ST := s_retI (i_fld 7 14 (r_loc 0))
theorem O_eM_conditionCount : OKS M_eM_conditionCount := OK_retI (OK_ifld (OK_rloc _))
theorem K_eM_conditionCount : M_eM_conditionCount.1 (7, (kini 1), prog_1_method_40_code, some (.int), 1) 0 = some (5, false, []) := by decide +kernel
theorem C_eM_conditionCount {d mc ms : Nat} {av : List Value} {h : FH} {Rr : Option Value → FH → Prop} (hl : (lg_sl av).length ≤ 1) (body : ∀ g : GE, g.1 = d → M_eM_conditionCount.2 g (fun _ _ _ => False) Rr (eent 1 av) h (mc, ms)) : Call 124 d av h mc ms Rr := call_of2 (k := 124) (own := 7) ((mtb_3 (i := 4) (by decide)).trans rfl) (by decide +kernel) rfl O_eM_conditionCount K_eM_conditionCount hl body
/-- method 125: EventStructures.append(I)I -/
def M_eM_append : ST := s_seq (s_if (c_or (c_icmp .lt (i_loc 1) (i_const 32)) (c_icmp .gt (i_loc 1) (i_const 126))) (s_retI (i_const (-2))))
 (s_retI (e_cV Value.int 126 (r_fld 7 12 (r_loc 0)) (aI1 (i_loc 1) a_nil)))
theorem O_eM_append : OKS M_eM_append := OK_seq (OK_sif (OK_cor (OK_icmp (OK_iloc _) (OK_const _)) (OK_icmp (OK_iloc _) (OK_const _))) (OK_retI (OK_const _))) (OK_retI (OK_cV (OK_rfld (OK_rloc _)) (OK_aI (OK_iloc _) OK_anil)))
theorem K_eM_append : M_eM_append.1 (7, (kini 1), prog_1_method_41_code, some (.int), 2) 0 = some (24, false, []) := by decide +kernel
theorem C_eM_append {d mc ms : Nat} {av : List Value} {h : FH} {Rr : Option Value → FH → Prop} (hl : (lg_sl av).length ≤ 2) (body : ∀ g : GE, g.1 = d → M_eM_append.2 g (fun _ _ _ => False) Rr (eent 2 av) h (mc, ms)) : Call 125 d av h mc ms Rr := call_of2 (k := 125) (own := 7) ((mtb_3 (i := 5) (by decide)).trans rfl) (by decide +kernel) rfl O_eM_append K_eM_append hl body
/-- method 127: EventStructures.parse(I)I -/
def M_eM_parse : ST := s_seq (s_ast 2 (e_cV va_rf 9 (r_loc 0) (aI1 (i_loc 1) a_nil)))
 (s_seq (s_ist 3 (e_cV Value.int 128 (r_fld 7 12 (r_loc 0)) a_nil))
 (s_seq (s_ist 4 (e_cond (c_and (c_and (c_nul false (r_loc 2)) (c_if .lt (i_loc 3))) (c_b (e_cV Value.int 131 (r_fld 7 12 (r_loc 0)) a_nil))) (i_const 1) (i_const 0)))
 (s_seq (s_cV 139 (r_fld 7 12 (r_loc 0)) a_nil)
 (s_seq (s_if (c_nul true (r_loc 2)) (s_retI (i_const (-1))))
 (s_seq (s_if (c_if .ge (i_loc 3)) (s_retI (i_sub (i_const (-100)) (i_loc 3))))
 (s_seq (s_if (c_not (c_b (i_loc 4))) (s_retI (i_const (-6))))
 (s_seq (s_cV 27 (r_loc 2) (aR1 (r_fld 1 0 (r_fld 7 12 (r_loc 0))) a_nil))
 (s_retI (i_fld 4 5 (r_loc 2))))))))))
theorem O_eM_parse : OKS M_eM_parse := OK_seq (OK_ast (OK_cV (OK_rloc _) (OK_aI (OK_iloc _) OK_anil))) (OK_seq (OK_ist (OK_cV (OK_rfld (OK_rloc _)) OK_anil)) (OK_seq (OK_ist (OK_econd (OK_cand (OK_cand (OK_nul (OK_rloc _)) (OK_if (OK_iloc _))) (OK_if (OK_cV (OK_rfld (OK_rloc _)) OK_anil))) (OK_const _) (OK_const _))) (OK_seq (OK_scV (OK_rfld (OK_rloc _)) OK_anil) (OK_seq (OK_sif (OK_nul (OK_rloc _)) (OK_retI (OK_const _))) (OK_seq (OK_sif (OK_if (OK_iloc _)) (OK_retI (OK_sub (OK_const _) (OK_iloc _)))) (OK_seq (OK_sif (OK_not (OK_if (OK_iloc _))) (OK_retI (OK_const _))) (OK_seq (OK_scV (OK_rloc _) (OK_aR (OK_rfld (OK_rfld (OK_rloc _))) OK_anil)) (OK_retI (OK_ifld (OK_rloc _))))))))))
theorem K_eM_parse : M_eM_parse.1 (7, (kini 1), prog_1_method_42_code, some (.int), 5) 0 = some (85, false, []) := by decide +kernel
theorem C_eM_parse {d mc ms : Nat} {av : List Value} {h : FH} {Rr : Option Value → FH → Prop} (hl : (lg_sl av).length ≤ 5) (body : ∀ g : GE, g.1 = d → M_eM_parse.2 g (fun _ _ _ => False) Rr (eent 5 av) h (mc, ms)) : Call 127 d av h mc ms Rr := call_of2 (k := 127) (own := 7) ((mtb_3 (i := 7) (by decide)).trans rfl) (by decide +kernel) rfl O_eM_parse K_eM_parse hl body
/-- method 140: EventStructures.save()I -/
def M_eM_save : ST := s_seq (s_cV 141 (r_fld 7 2 (r_loc 0)) (aR1 (r_fld 7 0 (r_loc 0)) a_nil))
 (s_seq (s_cV 141 (r_fld 7 3 (r_loc 0)) (aR1 (r_fld 7 1 (r_loc 0)) a_nil))
 (s_seq (s_cV 142 (r_fld 7 10 (r_loc 0)) (aR1 (r_fld 7 9 (r_loc 0)) a_nil))
 (s_seq (s_putZ 7 13 (r_loc 0) (i_const 1))
 (s_retI (i_add (i_fld 4 5 (r_fld 7 0 (r_loc 0))) (i_fld 4 5 (r_fld 7 1 (r_loc 0))))))))
theorem O_eM_save : OKS M_eM_save := OK_seq (OK_scV (OK_rfld (OK_rloc _)) (OK_aR (OK_rfld (OK_rloc _)) OK_anil)) (OK_seq (OK_scV (OK_rfld (OK_rloc _)) (OK_aR (OK_rfld (OK_rloc _)) OK_anil)) (OK_seq (OK_scV (OK_rfld (OK_rloc _)) (OK_aR (OK_rfld (OK_rloc _)) OK_anil)) (OK_seq (OK_putZ (OK_rloc _) (OK_const _)) (OK_retI (OK_add (OK_ifld (OK_rfld (OK_rloc _))) (OK_ifld (OK_rfld (OK_rloc _))))))))
theorem K_eM_save : M_eM_save.1 (7, (kini 1), prog_1_method_43_code, some (.int), 1) 0 = some (54, false, []) := by decide +kernel
theorem C_eM_save {d mc ms : Nat} {av : List Value} {h : FH} {Rr : Option Value → FH → Prop} (hl : (lg_sl av).length ≤ 1) (body : ∀ g : GE, g.1 = d → M_eM_save.2 g (fun _ _ _ => False) Rr (eent 1 av) h (mc, ms)) : Call 140 d av h mc ms Rr := call_of2 (k := 140) (own := 7) ((mtb_3 (i := 20) (by decide)).trans rfl) (by decide +kernel) rfl O_eM_save K_eM_save hl body
/-- method 141: EventStructures$Structure.becomeWithCurrent(LEventStructures$Structure;)V -/
def M_eS_becomeWithCurrent : ST := s_seq (s_cV 27 (r_loc 0) (aR1 (r_loc 1) a_nil))
 (s_seq (s_putI 4 6 (r_loc 0) (i_fld 4 6 (r_loc 1)))
 s_ret)
theorem O_eS_becomeWithCurrent : OKS M_eS_becomeWithCurrent := OK_seq (OK_scV (OK_rloc _) (OK_aR (OK_rloc _) OK_anil)) (OK_seq (OK_putI (OK_rloc _) (OK_ifld (OK_rloc _))) OK_ret)
theorem K_eS_becomeWithCurrent : M_eS_becomeWithCurrent.1 (4, (kini 1), prog_6_method_11_code, none, 2) 0 = some (14, false, []) := by decide +kernel
theorem C_eS_becomeWithCurrent {d mc ms : Nat} {av : List Value} {h : FH} {Rr : Option Value → FH → Prop} (hl : (lg_sl av).length ≤ 2) (body : ∀ g : GE, g.1 = d → M_eS_becomeWithCurrent.2 g (fun _ _ _ => False) Rr (eent 2 av) h (mc, ms)) : Call 141 d av h mc ms Rr := call_of2 (k := 141) (own := 4) ((mtb_3 (i := 21) (by decide)).trans rfl) (by decide +kernel) rfl O_eS_becomeWithCurrent K_eS_becomeWithCurrent hl body
/-- method 143: EventStructures.restore()I -/
def M_eM_restore : ST := s_seq (s_if (c_not (c_b (i_fld 7 13 (r_loc 0)))) (s_retI (i_const (-7))))
 (s_seq (s_cV 141 (r_fld 7 0 (r_loc 0)) (aR1 (r_fld 7 2 (r_loc 0)) a_nil))
 (s_seq (s_cV 141 (r_fld 7 1 (r_loc 0)) (aR1 (r_fld 7 3 (r_loc 0)) a_nil))
 (s_seq (s_cV 142 (r_fld 7 9 (r_loc 0)) (aR1 (r_fld 7 10 (r_loc 0)) a_nil))
 (s_retI (i_add (i_fld 4 5 (r_fld 7 0 (r_loc 0))) (i_fld 4 5 (r_fld 7 1 (r_loc 0))))))))
theorem O_eM_restore : OKS M_eM_restore := OK_seq (OK_sif (OK_not (OK_if (OK_ifld (OK_rloc _)))) (OK_retI (OK_const _))) (OK_seq (OK_scV (OK_rfld (OK_rloc _)) (OK_aR (OK_rfld (OK_rloc _)) OK_anil)) (OK_seq (OK_scV (OK_rfld (OK_rloc _)) (OK_aR (OK_rfld (OK_rloc _)) OK_anil)) (OK_seq (OK_scV (OK_rfld (OK_rloc _)) (OK_aR (OK_rfld (OK_rloc _)) OK_anil)) (OK_retI (OK_add (OK_ifld (OK_rfld (OK_rloc _))) (OK_ifld (OK_rfld (OK_rloc _))))))))
theorem K_eM_restore : M_eM_restore.1 (7, (kini 1), prog_1_method_44_code, some (.int), 1) 0 = some (59, false, []) := by decide +kernel
theorem C_eM_restore {d mc ms : Nat} {av : List Value} {h : FH} {Rr : Option Value → FH → Prop} (hl : (lg_sl av).length ≤ 1) (body : ∀ g : GE, g.1 = d → M_eM_restore.2 g (fun _ _ _ => False) Rr (eent 1 av) h (mc, ms)) : Call 143 d av h mc ms Rr := call_of2 (k := 143) (own := 7) ((mtb_3 (i := 23) (by decide)).trans rfl) (by decide +kernel) rfl O_eM_restore K_eM_restore hl body
