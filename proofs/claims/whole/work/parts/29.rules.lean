/-! RULES for walking: a rule a node (most of them by rfl) -/
theorem x_seq {a b : ST} {g : GE} {Q : LE → FH → Bd → Prop} {R : Option Value → FH → Prop} {env : LE} {h : FH} {bd : Bd} : (s_seq a b).2 g Q R env h bd = a.2 g (fun e h b' => b.2 g Q R e h b') R env h bd := rfl
theorem x_ist {i : Nat} {e : XI} {g : GE} {Q : LE → FH → Bd → Prop} {R : Option Value → FH → Prop} {env : LE} {h : FH} {b : Bd} : (s_ist i e).2 g Q R env h b = e.2 g (fun x h b => Q (est1 env i (.int x)) h b) env h b := rfl
theorem x_lst {i : Nat} {e : XL} {g : GE} {Q : LE → FH → Bd → Prop} {R : Option Value → FH → Prop} {env : LE} {h : FH} {b : Bd} : (s_lst i e).2 g Q R env h b = e.2 g (fun x h b => Q (est2 env i (.long x)) h b) env h b := rfl
theorem x_ast {i : Nat} {e : XR} {g : GE} {Q : LE → FH → Bd → Prop} {R : Option Value → FH → Prop} {env : LE} {h : FH} {b : Bd} : (s_ast i e).2 g Q R env h b = e.2 g (fun x h b => Q (est1 env i (va_rf x)) h b) env h b := rfl
def lI (v : Option Value) (P : Int32 → Prop) : Prop := match v with | some (.int x) => P x | _ => False
def lL (v : Option Value) (P : Int64 → Prop) : Prop := match v with | some (.long x) => P x | _ => False
def lR (v : Option Value) (P : Option Nat → Prop) : Prop := match v with | some (.ref a) => P (some a) | some .null => P none | _ => False
theorem lI_c {x : Int32} {P : Int32 → Prop} : lI (some (.int x)) P = P x := rfl
theorem lL_c {x : Int64} {P : Int64 → Prop} : lL (some (.long x)) P = P x := rfl
theorem lR_c {x : Nat} {P : Option Nat → Prop} : lR (some (.ref x)) P = P (some x) := rfl
theorem lR_n {P : Option Nat → Prop} : lR (some .null) P = P none := rfl
theorem x_inc {i : Nat} {n : Int} {g : GE} {Q : LE → FH → Bd → Prop} {R : Option Value → FH → Prop} {env : LE} {h : FH} {b : Bd} : (s_inc i n).2 g Q R env h b = lI (elg env i) (fun x => Q (est1 env i (.int (x + Int32.ofInt n))) h b) := rfl
theorem x_ic {z : Int} {g : GE} {Q : Int32 → FH → Bd → Prop} {env : LE} {h : FH} {b : Bd} : (i_const z).2 g Q env h b = Q (Int32.ofInt z) h b := rfl
theorem x_lc {z : Int} {g : GE} {Q : Int64 → FH → Bd → Prop} {env : LE} {h : FH} {b : Bd} : (l_const z).2 g Q env h b = Q (Int64.ofInt z) h b := rfl
theorem x_rn {g : GE} {Q : Option Nat → FH → Bd → Prop} {env : LE} {h : FH} {b : Bd} : r_null.2 g Q env h b = Q none h b := rfl
theorem x_il {i : Nat} {g : GE} {Q : Int32 → FH → Bd → Prop} {env : LE} {h : FH} {b : Bd} : (i_loc i).2 g Q env h b = lI (elg env i) (fun x => Q x h b) := rfl
theorem x_ll {i : Nat} {g : GE} {Q : Int64 → FH → Bd → Prop} {env : LE} {h : FH} {b : Bd} : (l_loc i).2 g Q env h b = lL (elg env i) (fun x => Q x h b) := rfl
theorem x_rl {i : Nat} {g : GE} {Q : Option Nat → FH → Bd → Prop} {env : LE} {h : FH} {b : Bd} : (r_loc i).2 g Q env h b = lR (elg env i) (fun x => Q x h b) := rfl
theorem x_add {a c : XI} {g : GE} {Q : Int32 → FH → Bd → Prop} {env : LE} {h : FH} {b : Bd} : (i_add a c).2 g Q env h b = a.2 g (fun x h' b' => c.2 g (fun y => Q (x + y)) env h' b') env h b := rfl
theorem x_sub {a c : XI} {g : GE} {Q : Int32 → FH → Bd → Prop} {env : LE} {h : FH} {b : Bd} : (i_sub a c).2 g Q env h b = a.2 g (fun x h' b' => c.2 g (fun y => Q (x - y)) env h' b') env h b := rfl
theorem x_mul {a c : XI} {g : GE} {Q : Int32 → FH → Bd → Prop} {env : LE} {h : FH} {b : Bd} : (i_mul a c).2 g Q env h b = a.2 g (fun x h' b' => c.2 g (fun y => Q (x * y)) env h' b') env h b := rfl
theorem x_and {a c : XI} {g : GE} {Q : Int32 → FH → Bd → Prop} {env : LE} {h : FH} {b : Bd} : (i_and a c).2 g Q env h b = a.2 g (fun x h' b' => c.2 g (fun y => Q (x &&& y)) env h' b') env h b := rfl
theorem x_or {a c : XI} {g : GE} {Q : Int32 → FH → Bd → Prop} {env : LE} {h : FH} {b : Bd} : (i_or a c).2 g Q env h b = a.2 g (fun x h' b' => c.2 g (fun y => Q (x ||| y)) env h' b') env h b := rfl
theorem x_xor {a c : XI} {g : GE} {Q : Int32 → FH → Bd → Prop} {env : LE} {h : FH} {b : Bd} : (i_xor a c).2 g Q env h b = a.2 g (fun x h' b' => c.2 g (fun y => Q (x ^^^ y)) env h' b') env h b := rfl
theorem x_shl {a c : XI} {g : GE} {Q : Int32 → FH → Bd → Prop} {env : LE} {h : FH} {b : Bd} : (i_shl a c).2 g Q env h b = a.2 g (fun x h' b' => c.2 g (fun y => Q (x <<< (y &&& 31))) env h' b') env h b := rfl
theorem x_shr {a c : XI} {g : GE} {Q : Int32 → FH → Bd → Prop} {env : LE} {h : FH} {b : Bd} : (i_shr a c).2 g Q env h b = a.2 g (fun x h' b' => c.2 g (fun y => Q (x >>> (y &&& 31))) env h' b') env h b := rfl
theorem x_ushr {a c : XI} {g : GE} {Q : Int32 → FH → Bd → Prop} {env : LE} {h : FH} {b : Bd} : (i_ushr a c).2 g Q env h b = a.2 g (fun x h' b' => c.2 g (fun y => Q (x.toUInt32 >>> (y.toUInt32 &&& Int32.toUInt32 31)).toInt32) env h' b') env h b := rfl
theorem x_div {a c : XI} {g : GE} {Q : Int32 → FH → Bd → Prop} {env : LE} {h : FH} {b : Bd} : (i_div a c).2 g Q env h b = a.2 g (fun x h' b' => c.2 g (fun y h b => ¬ y = 0 ∧ Q (x / y) h b) env h' b') env h b := rfl
theorem x_rem {a c : XI} {g : GE} {Q : Int32 → FH → Bd → Prop} {env : LE} {h : FH} {b : Bd} : (i_rem a c).2 g Q env h b = a.2 g (fun x h' b' => c.2 g (fun y h b => ¬ y = 0 ∧ Q (x - x / y * y) h b) env h' b') env h b := rfl
theorem x_ladd {a c : XL} {g : GE} {Q : Int64 → FH → Bd → Prop} {env : LE} {h : FH} {b : Bd} : (l_add a c).2 g Q env h b = a.2 g (fun x h' b' => c.2 g (fun y => Q (x + y)) env h' b') env h b := rfl
theorem x_lmul {a c : XL} {g : GE} {Q : Int64 → FH → Bd → Prop} {env : LE} {h : FH} {b : Bd} : (l_mul a c).2 g Q env h b = a.2 g (fun x h' b' => c.2 g (fun y => Q (x * y)) env h' b') env h b := rfl
theorem x_land {a c : XL} {g : GE} {Q : Int64 → FH → Bd → Prop} {env : LE} {h : FH} {b : Bd} : (l_and a c).2 g Q env h b = a.2 g (fun x h' b' => c.2 g (fun y => Q (x &&& y)) env h' b') env h b := rfl
theorem x_lor {a c : XL} {g : GE} {Q : Int64 → FH → Bd → Prop} {env : LE} {h : FH} {b : Bd} : (l_or a c).2 g Q env h b = a.2 g (fun x h' b' => c.2 g (fun y => Q (x ||| y)) env h' b') env h b := rfl
theorem x_lxor {a c : XL} {g : GE} {Q : Int64 → FH → Bd → Prop} {env : LE} {h : FH} {b : Bd} : (l_xor a c).2 g Q env h b = a.2 g (fun x h' b' => c.2 g (fun y => Q (x ^^^ y)) env h' b') env h b := rfl
theorem x_lshl {a : XL} {c : XI} {g : GE} {Q : Int64 → FH → Bd → Prop} {env : LE} {h : FH} {b : Bd} : (l_shl a c).2 g Q env h b = a.2 g (fun x h' b' => c.2 g (fun y => Q (x <<< (y.toInt64 &&& 63))) env h' b') env h b := rfl
theorem x_lshr {a : XL} {c : XI} {g : GE} {Q : Int64 → FH → Bd → Prop} {env : LE} {h : FH} {b : Bd} : (l_shr a c).2 g Q env h b = a.2 g (fun x h' b' => c.2 g (fun y => Q (x >>> (y.toInt64 &&& 63))) env h' b') env h b := rfl
theorem x_lushr {a : XL} {c : XI} {g : GE} {Q : Int64 → FH → Bd → Prop} {env : LE} {h : FH} {b : Bd} : (l_ushr a c).2 g Q env h b = a.2 g (fun x h' b' => c.2 g (fun y => Q (x.toUInt64 >>> (y.toInt64.toUInt64 &&& Int64.toUInt64 63)).toInt64) env h' b') env h b := rfl
theorem x_i2l {a : XI} {g : GE} {Q : Int64 → FH → Bd → Prop} {env : LE} {h : FH} {b : Bd} : (l_i2l a).2 g Q env h b = a.2 g (fun x => Q x.toInt64) env h b := rfl
theorem x_l2i {a : XL} {g : GE} {Q : Int32 → FH → Bd → Prop} {env : LE} {h : FH} {b : Bd} : (i_l2i a).2 g Q env h b = a.2 g (fun x => Q x.toInt32) env h b := rfl
theorem x_max {a c : XL} {g : GE} {Q : Int64 → FH → Bd → Prop} {env : LE} {h : FH} {b : Bd} : (l_max a c).2 g Q env h b = (1 ≤ g.1 ∧ a.2 g (fun x h' b' => c.2 g (fun y h b => Q (if y < x then x else y) h b) env h' b') env h b) := rfl
theorem x_ifld {ci k : Nat} {r : XR} {g : GE} {Q : Int32 → FH → Bd → Prop} {env : LE} {h : FH} {b : Bd} : (i_fld ci k r).2 g Q env h b = r.2 g (fun r h b => gO r (fun a => gI ci k (h.2 a) (fun x => Q x h b))) env h b := by
  refine congrArg (fun q => r.2 g q env h b) (funext fun r => funext fun h => funext fun b => ?_)
  exact gI_iff
theorem x_lfld {ci k : Nat} {r : XR} {g : GE} {Q : Int64 → FH → Bd → Prop} {env : LE} {h : FH} {b : Bd} : (l_fld ci k r).2 g Q env h b = r.2 g (fun r h b => gO r (fun a => gL ci k (h.2 a) (fun x => Q x h b))) env h b := by
  refine congrArg (fun q => r.2 g q env h b) (funext fun r => funext fun h => funext fun b => ?_)
  exact gL_iff
theorem x_rfld {ci k : Nat} {r : XR} {g : GE} {Q : Option Nat → FH → Bd → Prop} {env : LE} {h : FH} {b : Bd} : (r_fld ci k r).2 g Q env h b = r.2 g (fun r h b => gO r (fun a => gR ci k (h.2 a) (fun x => Q x h b))) env h b := by
  refine congrArg (fun q => r.2 g q env h b) (funext fun r => funext fun h => funext fun b => ?_)
  exact gR_iff
theorem ald_iff {α : Type} {ins : Instr} {mk : Nat → (Nat → α) → FC → Prop} {rd : Option FC → Int32 → (α → Prop) → Prop} {r : XR} {i : XI} {g : GE} {Q : α → FH → Bd → Prop} {env : LE} {h : FH} {b : Bd} (H : ∀ (c : Option FC) (z : Int32) (P : α → Prop), (∃ (n : Nat) (f : Nat → α) (c' : FC) (j : Nat), c = some c' ∧ mk n f c' ∧ z = nI j ∧ j < n ∧ j < 2147483648 ∧ P (f j)) = rd c z P) : (e_ald ins mk r i).2 g Q env h b = r.2 g (fun r h b => gO r (fun a => i.2 g (fun z h b => rd (h.2 a) z (fun x => Q x h b)) env h b)) env h b := by
  refine congrArg (fun q => r.2 g q env h b) (funext fun r => funext fun h => funext fun b => ?_)
  rw [← gO_iff]
  refine congrArg (fun P : Nat → Prop => ∃ a, r = some a ∧ P a) (funext fun a => ?_)
  refine congrArg (fun q => i.2 g q env h b) (funext fun z => funext fun h => funext fun b => ?_)
  exact H (h.2 a) z (fun x => Q x h b)
theorem x_iald {r : XR} {i : XI} {g : GE} {Q : Int32 → FH → Bd → Prop} {env : LE} {h : FH} {b : Bd} : (i_ald r i).2 g Q env h b = r.2 g (fun r h b => gO r (fun a => i.2 g (fun z h b => rdI (h.2 a) z (fun x => Q x h b)) env h b)) env h b := ald_iff fun c z P => propext ⟨by rintro ⟨n, f, c', j, rfl, rfl, h1⟩; exact ⟨n, f, j, rfl, h1⟩, by rintro ⟨n, f, j, rfl, h1⟩; exact ⟨n, f, _, j, rfl, rfl, h1⟩⟩
theorem x_zald {r : XR} {i : XI} {g : GE} {Q : Int32 → FH → Bd → Prop} {env : LE} {h : FH} {b : Bd} : (i_zald r i).2 g Q env h b = r.2 g (fun r h b => gO r (fun a => i.2 g (fun z h b => rdZ (h.2 a) z (fun x => Q x h b)) env h b)) env h b := ald_iff fun c z P => propext ⟨by rintro ⟨n, f, c', j, rfl, rfl, h1⟩; exact ⟨n, f, j, rfl, h1⟩, by rintro ⟨n, f, j, rfl, h1⟩; exact ⟨n, f, _, j, rfl, rfl, h1⟩⟩
theorem x_lald {r : XR} {i : XI} {g : GE} {Q : Int64 → FH → Bd → Prop} {env : LE} {h : FH} {b : Bd} : (l_ald r i).2 g Q env h b = r.2 g (fun r h b => gO r (fun a => i.2 g (fun z h b => rdL (h.2 a) z (fun x => Q x h b)) env h b)) env h b := ald_iff fun c z P => propext ⟨by rintro ⟨n, f, c', j, rfl, rfl, h1⟩; exact ⟨n, f, j, rfl, h1⟩, by rintro ⟨n, f, j, rfl, h1⟩; exact ⟨n, f, _, j, rfl, rfl, h1⟩⟩
theorem x_rald {r : XR} {i : XI} {g : GE} {Q : Option Nat → FH → Bd → Prop} {env : LE} {h : FH} {b : Bd} : (r_ald r i).2 g Q env h b = r.2 g (fun r h b => gO r (fun a => i.2 g (fun z h b => rdR (h.2 a) z (fun x => Q x h b)) env h b)) env h b := ald_iff fun c z P => propext ⟨by rintro ⟨n, f, c', j, rfl, ⟨ty, ht, rfl⟩, h1⟩; exact ⟨ty, n, f, j, ht, rfl, h1⟩, by rintro ⟨ty, n, f, j, ht, rfl, h1⟩; exact ⟨n, f, _, j, rfl, ⟨ty, ht, rfl⟩, h1⟩⟩
def alN (c : Option FC) (P : Nat → Prop) : Prop := match c with | some (.inl (_, x)) => P x.1 | _ => False
theorem alN_c {ty : FieldType} {x : vp_A} {P : Nat → Prop} : alN (some (.inl (ty, x))) P = P x.1 := rfl
theorem x_len {r : XR} {g : GE} {Q : Int32 → FH → Bd → Prop} {env : LE} {h : FH} {b : Bd} : (i_len r).2 g Q env h b = r.2 g (fun r h b => gO r (fun a => alN (h.2 a) (fun n => Q (nI n) h b))) env h b := by
  refine congrArg (fun q => r.2 g q env h b) (funext fun r => funext fun h => funext fun b => ?_)
  refine propext ⟨?_, fun q => ?_⟩
  · rintro ⟨a, ty, x, rfl, h1, h2⟩
    simp only [gO, h1, alN]
    exact h2
  · cases r with
    | none => exact q.elim
    | some a =>
      simp only [gO, alN] at q
      split at q
      · rename_i ty x h1
        exact ⟨a, ty, x, rfl, h1, q⟩
      · exact q.elim
def rdW (z : Int32) (P : Int32 → Prop) : Prop := ∃ j : Nat, z = nI j ∧ j < 6 ∧ P (wtab j)
theorem rdW_c {j : Nat} {P : Int32 → Prop} (hj : j < 6) : rdW (nI j) P = P (wtab j) := propext ⟨by
  rintro ⟨k, h1, h2, h3⟩
  cases (nI_eq (show j < 2 ^ 31 by omega) (show k < 2 ^ 31 by omega)).mp h1
  exact h3, fun q => ⟨j, rfl, hj, q⟩⟩
theorem x_wt {i : XI} {g : GE} {Q : Int32 → FH → Bd → Prop} {env : LE} {h : FH} {b : Bd} : (i_wt i).2 g Q env h b = i.2 g (fun z h b => rdW z (fun x => Q x h b)) env h b := rfl
def rdS (g : GE) (z : Int32) (P : Int32 → Prop) : Prop := ∃ j : Nat, z = nI j ∧ j < g.2.2.1 ∧ j < 2147483648 ∧ P (g.2.2.2.1 j)
theorem rdS_c {g : GE} {j : Nat} {P : Int32 → Prop} (h1 : j < g.2.2.1) (h2 : j < 2147483648) : rdS g (nI j) P = P (g.2.2.2.1 j) := propext ⟨by
  rintro ⟨k, h3, h4, h5, h6⟩
  cases (nI_eq (show j < 2 ^ 31 by omega) (show k < 2 ^ 31 by omega)).mp h3
  exact h6, fun q => ⟨j, rfl, h1, h2, q⟩⟩
theorem x_scr {i : XI} {g : GE} {Q : Int32 → FH → Bd → Prop} {env : LE} {h : FH} {b : Bd} : (i_scr i).2 g Q env h b = (elg env 0 = some (.ref g.2.1) ∧ i.2 g (fun z h b => rdS g z (fun x => Q x h b)) env h b) := rfl
theorem x_slen {g : GE} {Q : Int32 → FH → Bd → Prop} {env : LE} {h : FH} {b : Bd} : i_slen.2 g Q env h b = (elg env 0 = some (.ref g.2.1) ∧ Q (nI g.2.2.1) h b) := rfl
theorem x_icmp {c : Jvm.ClassFile.Cond} {a d : XI} {g : GE} {Q : Bool → FH → Bd → Prop} {env : LE} {h : FH} {b : Bd} : (c_icmp c a d).2 g Q env h b = a.2 g (fun x h b => d.2 g (fun y h b => Q (icm c x y) h b) env h b) env h b := rfl
theorem x_if {c : Jvm.ClassFile.Cond} {a : XI} {g : GE} {Q : Bool → FH → Bd → Prop} {env : LE} {h : FH} {b : Bd} : (c_if c a).2 g Q env h b = a.2 g (fun x h b => Q (icm c x 0) h b) env h b := rfl
theorem x_cb {a : XI} {g : GE} {Q : Bool → FH → Bd → Prop} {env : LE} {h : FH} {b : Bd} : (c_b a).2 g Q env h b = a.2 g (fun x h b => Q (icm .ne x 0) h b) env h b := rfl
theorem x_lcmp {c : Jvm.ClassFile.Cond} {a d : XL} {g : GE} {Q : Bool → FH → Bd → Prop} {env : LE} {h : FH} {b : Bd} : (c_lcmp c a d).2 g Q env h b = a.2 g (fun x h b => d.2 g (fun y h b => Q (icm c (lg_cmp x y) 0) h b) env h b) env h b := rfl
theorem x_nul {bb : Bool} {r : XR} {g : GE} {Q : Bool → FH → Bd → Prop} {env : LE} {h : FH} {b : Bd} : (c_nul bb r).2 g Q env h b = r.2 g (fun x h bd => Q (if bb then x.isNone else x.isSome) h bd) env h b := rfl
theorem x_cnot {c : XC} {g : GE} {Q : Bool → FH → Bd → Prop} {env : LE} {h : FH} {b : Bd} : (c_not c).2 g Q env h b = c.2 g (fun v h b => Q (!v) h b) env h b := rfl
theorem x_cand {a c : XC} {g : GE} {Q : Bool → FH → Bd → Prop} {env : LE} {h : FH} {b : Bd} : (c_and a c).2 g Q env h b = a.2 g (fun v h' b' => cnd v (c.2 g Q env h' b') (Q false h' b')) env h b := rfl
theorem x_cor {a c : XC} {g : GE} {Q : Bool → FH → Bd → Prop} {env : LE} {h : FH} {b : Bd} : (c_or a c).2 g Q env h b = a.2 g (fun v h' b' => cnd v (Q true h' b') (c.2 g Q env h' b')) env h b := rfl
theorem x_cond {α : Type} {c : XC} {a d : E α} {g : GE} {Q : α → FH → Bd → Prop} {env : LE} {h : FH} {b : Bd} : (e_cond c a d).2 g Q env h b = c.2 g (fun v h' b' => cnd v (a.2 g Q env h' b') (d.2 g Q env h' b')) env h b := rfl
theorem x_an {g : GE} {Q : List Value → FH → Bd → Prop} {env : LE} {h : FH} {b : Bd} : a_nil.2.2 g Q env h b = Q [] h b := rfl
theorem x_ac {α : Type} {w : Nat} {va : α → Value} {e : E α} {r : XA} {g : GE} {Q : List Value → FH → Bd → Prop} {env : LE} {h : FH} {b : Bd} : (a_cons w va e r).2.2 g Q env h b = e.2 g (fun x h b => r.2.2 g (fun As h b => Q (va x :: As) h b) env h b) env h b := rfl
def isK (k : Nat) (c : Option FC) : Prop := ∃ fs, c = some (.inr (mci k, fs))
theorem isK_c {k ci : Nat} {fs : List Value} : isK k (some (.inr (ci, fs))) = (mci k = ci) := propext ⟨by rintro ⟨f, h⟩; cases h; rfl, by rintro rfl; exact ⟨fs, rfl⟩⟩
theorem x_cV {α : Type} {va : α → Value} {k : Nat} {r : XR} {a : XA} {g : GE} {Q : α → FH → Bd → Prop} {env : LE} {h : FH} {b : Bd} : (e_cV va k r a).2 g Q env h b = r.2 g (fun r h b => gO r (fun q => a.2.2 g (fun As h b => isK k (h.2 q) ∧ CallQ k g (.ref q :: As) (fun v h b => ∃ x, v = some (va x) ∧ Q x h b) h b) env h b)) env h b := by
  refine congrArg (fun q => r.2 g q env h b) (funext fun r => funext fun h => funext fun b => ?_)
  exact gO_iff
theorem x_cS {α : Type} {va : α → Value} {k : Nat} {a : XA} {g : GE} {Q : α → FH → Bd → Prop} {env : LE} {h : FH} {b : Bd} : (e_cS va k a).2 g Q env h b = a.2.2 g (fun As h b => CallQ k g As (fun v h b => ∃ x, v = some (va x) ∧ Q x h b) h b) env h b := rfl
theorem x_scV {k : Nat} {r : XR} {a : XA} {g : GE} {Q : LE → FH → Bd → Prop} {R : Option Value → FH → Prop} {env : LE} {h : FH} {b : Bd} : (s_cV k r a).2 g Q R env h b = r.2 g (fun r h b => gO r (fun q => a.2.2 g (fun As h b => isK k (h.2 q) ∧ CallQ k g (.ref q :: As) (fun v h b => v = none ∧ Q env h b) h b) env h b)) env h b := by
  refine congrArg (fun q => r.2 g q env h b) (funext fun r => funext fun h => funext fun b => ?_)
  exact gO_iff
theorem x_scS {k : Nat} {a : XA} {g : GE} {Q : LE → FH → Bd → Prop} {R : Option Value → FH → Prop} {env : LE} {h : FH} {b : Bd} : (s_cS k a).2 g Q R env h b = a.2.2 g (fun As h b => CallQ k g As (fun v h b => v = none ∧ Q env h b) h b) env h b := rfl
theorem vI_ex {x : Int32} {P : Int32 → Prop} : (∃ z, some (Value.int x) = some (Value.int z) ∧ P z) = P x := propext ⟨by rintro ⟨z, h, q⟩; cases h; exact q, fun q => ⟨x, rfl, q⟩⟩
theorem vL_ex {x : Int64} {P : Int64 → Prop} : (∃ z, some (Value.long x) = some (Value.long z) ∧ P z) = P x := propext ⟨by rintro ⟨z, h, q⟩; cases h; exact q, fun q => ⟨x, rfl, q⟩⟩
theorem vR_ex {x : Option Nat} {P : Option Nat → Prop} : (∃ z, some (va_rf x) = some (va_rf z) ∧ P z) = P x := propext ⟨by rintro ⟨z, h, q⟩; cases x <;> cases z <;> cases h <;> exact q, fun q => ⟨x, rfl, q⟩⟩
theorem vR_exs {x : Nat} {P : Option Nat → Prop} : (∃ z, some (Value.ref x) = some (va_rf z) ∧ P z) = P (some x) := vR_ex (x := some x)
theorem vR_exn {P : Option Nat → Prop} : (∃ z, some Value.null = some (va_rf z) ∧ P z) = P none := vR_ex (x := none)
/-! statements that write -/
def pt (ci k : Nat) (v : Value) (c : Option FC) (P : FC → Prop) : Prop := ∃ fs : List Value, c = some (.inr (ci, fs)) ∧ k < fs.length ∧ P (.inr (ci, fs.set k v))
theorem pt_c {ci k : Nat} {v : Value} {fs : List Value} {P : FC → Prop} : pt ci k v (some (.inr (ci, fs))) P = (k < fs.length ∧ P (.inr (ci, fs.set k v))) := propext ⟨by rintro ⟨f, h1, h2, h3⟩; cases h1; exact ⟨h2, h3⟩, fun q => ⟨fs, rfl, q.1, q.2⟩⟩
theorem put_iff {α : Type} {va : α → Value} {tb : FieldType → Bool} {pre : α → Prop} {ci k : Nat} {r : XR} {e : E α} {g : GE} {Q : LE → FH → Bd → Prop} {R : Option Value → FH → Prop} {env : LE} {h : FH} {b : Bd} : (s_put va tb pre ci k r e).2 g Q R env h b = r.2 g (fun r h b => gO r (fun a => e.2 g (fun x h b => pre x ∧ pt ci k (va x) (h.2 a) (fun c => Q env (hset h a c) b)) env h b)) env h b := by
  refine congrArg (fun q => r.2 g q env h b) (funext fun r => funext fun h => funext fun b => ?_)
  rw [← gO_iff]
  refine congrArg (fun P : Nat → Prop => ∃ a, r = some a ∧ P a) (funext fun a => ?_)
  refine congrArg (fun q => e.2 g q env h b) (funext fun x => funext fun h => funext fun b => ?_)
  exact propext ⟨fun ⟨fs, h1, h2, h3, h4⟩ => ⟨h3, fs, h1, h2, h4⟩, fun ⟨h3, fs, h1, h2, h4⟩ => ⟨fs, h1, h2, h3, h4⟩⟩
theorem x_putI {ci k : Nat} {r : XR} {e : XI} {g : GE} {Q : LE → FH → Bd → Prop} {R : Option Value → FH → Prop} {env : LE} {h : FH} {b : Bd} : (s_putI ci k r e).2 g Q R env h b = r.2 g (fun r h b => gO r (fun a => e.2 g (fun x h b => pt ci k (.int x) (h.2 a) (fun c => Q env (hset h a c) b)) env h b)) env h b := put_iff.trans (by simp only [true_and])
theorem x_putZ {ci k : Nat} {r : XR} {e : XI} {g : GE} {Q : LE → FH → Bd → Prop} {R : Option Value → FH → Prop} {env : LE} {h : FH} {b : Bd} : (s_putZ ci k r e).2 g Q R env h b = r.2 g (fun r h b => gO r (fun a => e.2 g (fun x h b => (x = 0 ∨ x = 1) ∧ pt ci k (.int x) (h.2 a) (fun c => Q env (hset h a c) b)) env h b)) env h b := put_iff
theorem x_putL {ci k : Nat} {r : XR} {e : XL} {g : GE} {Q : LE → FH → Bd → Prop} {R : Option Value → FH → Prop} {env : LE} {h : FH} {b : Bd} : (s_putL ci k r e).2 g Q R env h b = r.2 g (fun r h b => gO r (fun a => e.2 g (fun x h b => pt ci k (.long x) (h.2 a) (fun c => Q env (hset h a c) b)) env h b)) env h b := put_iff.trans (by simp only [true_and])
theorem x_putR {ci k : Nat} {r : XR} {e : XR} {g : GE} {Q : LE → FH → Bd → Prop} {R : Option Value → FH → Prop} {env : LE} {h : FH} {b : Bd} : (s_putR ci k r e).2 g Q R env h b = r.2 g (fun r h b => gO r (fun a => e.2 g (fun x h b => pt ci k (va_rf x) (h.2 a) (fun c => Q env (hset h a c) b)) env h b)) env h b := put_iff.trans (by simp only [true_and])
theorem x_opf {ci k : Nat} {ins : Instr} {op : Int32 → Int32 → Int32} {r : XR} {e : XI} {g : GE} {Q : LE → FH → Bd → Prop} {R : Option Value → FH → Prop} {env : LE} {h : FH} {b : Bd} : (s_opf ci k ins op r e).2 g Q R env h b = r.2 g (fun r h b => gO r (fun a => gI ci k (h.2 a) (fun x => e.2 g (fun y h b => pt ci k (.int (op x y)) (h.2 a) (fun c => Q env (hset h a c) b)) env h b))) env h b := by
  refine congrArg (fun q => r.2 g q env h b) (funext fun r => funext fun h => funext fun b => ?_)
  exact gI_iff2 (Q := fun a x => e.2 g (fun y h b => pt ci k (.int (op x y)) (h.2 a) (fun c => Q env (hset h a c) b)) env h b)
/-- an array's element written -/
def wrI (c : Option FC) (z x : Int32) (P : FC → Prop) : Prop := ∃ (n : Nat) (f : Nat → Int32) (j : Nat), c = some (aI n f) ∧ z = nI j ∧ j < n ∧ j < 2147483648 ∧ P (aI n (upd f j x))
def wrZ (c : Option FC) (z x : Int32) (P : FC → Prop) : Prop := ∃ (n : Nat) (f : Nat → Int32) (j : Nat), c = some (aZ n f) ∧ z = nI j ∧ j < n ∧ j < 2147483648 ∧ P (aZ n (upd f j x))
def wrL (c : Option FC) (z : Int32) (x : Int64) (P : FC → Prop) : Prop := ∃ (n : Nat) (f : Nat → Int64) (j : Nat), c = some (aL n f) ∧ z = nI j ∧ j < n ∧ j < 2147483648 ∧ P (aL n (vp_updL f j x))
theorem wrI_c {n j : Nat} {f : Nat → Int32} {x : Int32} {P : FC → Prop} (h1 : j < n) (h2 : j < 2147483648) : wrI (some (aI n f)) (nI j) x P = P (aI n (upd f j x)) := by
  refine propext ⟨?_, fun q => ⟨n, f, j, rfl, rfl, h1, h2, q⟩⟩
  rintro ⟨n', f', j', h3, h4, h5, h6, q⟩
  cases h3
  cases (nI_eq h2 h6).mp h4
  exact q
theorem wrZ_c {n j : Nat} {f : Nat → Int32} {x : Int32} {P : FC → Prop} (h1 : j < n) (h2 : j < 2147483648) : wrZ (some (aZ n f)) (nI j) x P = P (aZ n (upd f j x)) := by
  refine propext ⟨?_, fun q => ⟨n, f, j, rfl, rfl, h1, h2, q⟩⟩
  rintro ⟨n', f', j', h3, h4, h5, h6, q⟩
  cases h3
  cases (nI_eq h2 h6).mp h4
  exact q
theorem wrL_c {n j : Nat} {f : Nat → Int64} {x : Int64} {P : FC → Prop} (h1 : j < n) (h2 : j < 2147483648) : wrL (some (aL n f)) (nI j) x P = P (aL n (vp_updL f j x)) := by
  refine propext ⟨?_, fun q => ⟨n, f, j, rfl, rfl, h1, h2, q⟩⟩
  rintro ⟨n', f', j', h3, h4, h5, h6, q⟩
  cases h3
  cases (nI_eq h2 h6).mp h4
  exact q
theorem x_iast {r : XR} {i e : XI} {g : GE} {Q : LE → FH → Bd → Prop} {R : Option Value → FH → Prop} {env : LE} {h : FH} {b : Bd} : (s_iast r i e).2 g Q R env h b = r.2 g (fun r h b => gO r (fun a => i.2 g (fun z h b => e.2 g (fun x h b => wrI (h.2 a) z x (fun c => Q env (hset h a c) b)) env h b) env h b)) env h b := by
  refine congrArg (fun q => r.2 g q env h b) (funext fun r => funext fun h => funext fun b => ?_)
  rw [← gO_iff]
  refine congrArg (fun P : Nat → Prop => ∃ a, r = some a ∧ P a) (funext fun a => ?_)
  refine congrArg (fun q => i.2 g q env h b) (funext fun z => funext fun h => funext fun b => ?_)
  refine congrArg (fun q => e.2 g q env h b) (funext fun x => funext fun h => funext fun b => ?_)
  exact propext ⟨fun ⟨n, f, j, h1, h2, h3, h4, _, h5⟩ => ⟨n, f, j, h1, h2, h3, h4, h5⟩, fun ⟨n, f, j, h1, h2, h3, h4, h5⟩ => ⟨n, f, j, h1, h2, h3, h4, trivial, h5⟩⟩
theorem x_zast {r : XR} {i e : XI} {g : GE} {Q : LE → FH → Bd → Prop} {R : Option Value → FH → Prop} {env : LE} {h : FH} {b : Bd} : (s_zast r i e).2 g Q R env h b = r.2 g (fun r h b => gO r (fun a => i.2 g (fun z h b => e.2 g (fun x h b => (x = 0 ∨ x = 1) ∧ wrZ (h.2 a) z x (fun c => Q env (hset h a c) b)) env h b) env h b)) env h b := by
  refine congrArg (fun q => r.2 g q env h b) (funext fun r => funext fun h => funext fun b => ?_)
  rw [← gO_iff]
  refine congrArg (fun P : Nat → Prop => ∃ a, r = some a ∧ P a) (funext fun a => ?_)
  refine congrArg (fun q => i.2 g q env h b) (funext fun z => funext fun h => funext fun b => ?_)
  refine congrArg (fun q => e.2 g q env h b) (funext fun x => funext fun h => funext fun b => ?_)
  exact propext ⟨fun ⟨n, f, j, h1, h2, h3, h4, h6, h5⟩ => ⟨h6, n, f, j, h1, h2, h3, h4, h5⟩, fun ⟨h6, n, f, j, h1, h2, h3, h4, h5⟩ => ⟨n, f, j, h1, h2, h3, h4, h6, h5⟩⟩
theorem x_last {r : XR} {i : XI} {e : XL} {g : GE} {Q : LE → FH → Bd → Prop} {R : Option Value → FH → Prop} {env : LE} {h : FH} {b : Bd} : (s_last r i e).2 g Q R env h b = r.2 g (fun r h b => gO r (fun a => i.2 g (fun z h b => e.2 g (fun x h b => wrL (h.2 a) z x (fun c => Q env (hset h a c) b)) env h b) env h b)) env h b := by
  refine congrArg (fun q => r.2 g q env h b) (funext fun r => funext fun h => funext fun b => ?_)
  rw [← gO_iff]
  refine congrArg (fun P : Nat → Prop => ∃ a, r = some a ∧ P a) (funext fun a => ?_)
  refine congrArg (fun q => i.2 g q env h b) (funext fun z => funext fun h => funext fun b => ?_)
  refine congrArg (fun q => e.2 g q env h b) (funext fun x => funext fun h => funext fun b => ?_)
  exact propext ⟨fun ⟨n, f, j, h1, h2, h3, h4, _, h5⟩ => ⟨n, f, j, h1, h2, h3, h4, h5⟩, fun ⟨n, f, j, h1, h2, h3, h4, h5⟩ => ⟨n, f, j, h1, h2, h3, h4, trivial, h5⟩⟩
def wrR (ci : Nat) (c cv : Option FC) (z : Int32) (v : Nat) (P : FC → Prop) : Prop := ∃ (n : Nat) (f : Nat → Option Nat) (j : Nat), (∃ fs : List Value, cv = some (.inr (ci, fs))) ∧ c = some (aR (.object (cnm ci)) n f) ∧ z = nI j ∧ j < n ∧ j < 2147483648 ∧ P (aR (.object (cnm ci)) n (va_up f j (some v)))
theorem wrR_c {ci n j v : Nat} {fs : List Value} {f : Nat → Option Nat} {P : FC → Prop} (h1 : j < n) (h2 : j < 2147483648) : wrR ci (some (aR (.object (cnm ci)) n f)) (some (.inr (ci, fs))) (nI j) v P = P (aR (.object (cnm ci)) n (va_up f j (some v))) := by
  refine propext ⟨?_, fun q => ⟨n, f, j, ⟨fs, rfl⟩, rfl, rfl, h1, h2, q⟩⟩
  rintro ⟨n', f', j', -, h3, h4, h5, h6, q⟩
  cases h3
  cases (nI_eq h2 h6).mp h4
  exact q
theorem x_aast {ci : Nat} {r : XR} {i : XI} {e : XR} {g : GE} {Q : LE → FH → Bd → Prop} {R : Option Value → FH → Prop} {env : LE} {h : FH} {b : Bd} : (s_aast ci r i e).2 g Q R env h b = r.2 g (fun r h b => gO r (fun a => i.2 g (fun z h b => e.2 g (fun x h b => gO x (fun v => wrR ci (h.2 a) (h.2 v) z v (fun c => Q env (hset h a c) b))) env h b) env h b)) env h b := by
  refine congrArg (fun q => r.2 g q env h b) (funext fun r => funext fun h => funext fun b => ?_)
  rw [← gO_iff]
  refine congrArg (fun P : Nat → Prop => ∃ a, r = some a ∧ P a) (funext fun a => ?_)
  refine congrArg (fun q => i.2 g q env h b) (funext fun z => funext fun h => funext fun b => ?_)
  refine congrArg (fun q => e.2 g q env h b) (funext fun x => funext fun h => funext fun b => ?_)
  rw [← gO_iff]
  exact propext ⟨fun ⟨n, f, j, v, fs, h0, h1, h2, h3, h4, h5, h6⟩ => ⟨v, h0, n, f, j, ⟨fs, h1⟩, h2, h3, h4, h5, h6⟩, fun ⟨v, h0, n, f, j, ⟨fs, h1⟩, h2, h3, h4, h5, h6⟩ => ⟨n, f, j, v, fs, h0, h1, h2, h3, h4, h5, h6⟩⟩
def opI (c : Option FC) (z : Int32) (P : Nat → Nat → (Nat → Int32) → Prop) : Prop := ∃ (n : Nat) (f : Nat → Int32) (j : Nat), c = some (aI n f) ∧ z = nI j ∧ j < n ∧ j < 2147483648 ∧ P n j f
def opL (c : Option FC) (z : Int32) (P : Nat → Nat → (Nat → Int64) → Prop) : Prop := ∃ (n : Nat) (f : Nat → Int64) (j : Nat), c = some (aL n f) ∧ z = nI j ∧ j < n ∧ j < 2147483648 ∧ P n j f
theorem opI_c {n j : Nat} {f : Nat → Int32} {P : Nat → Nat → (Nat → Int32) → Prop} (h1 : j < n) (h2 : j < 2147483648) : opI (some (aI n f)) (nI j) P = P n j f := by
  refine propext ⟨?_, fun q => ⟨n, f, j, rfl, rfl, h1, h2, q⟩⟩
  rintro ⟨n', f', j', h3, h4, h5, h6, q⟩
  cases h3
  cases (nI_eq h2 h6).mp h4
  exact q
theorem opL_c {n j : Nat} {f : Nat → Int64} {P : Nat → Nat → (Nat → Int64) → Prop} (h1 : j < n) (h2 : j < 2147483648) : opL (some (aL n f)) (nI j) P = P n j f := by
  refine propext ⟨?_, fun q => ⟨n, f, j, rfl, rfl, h1, h2, q⟩⟩
  rintro ⟨n', f', j', h3, h4, h5, h6, q⟩
  cases h3
  cases (nI_eq h2 h6).mp h4
  exact q
def op2 {α : Type} (mk : Nat → (Nat → α) → FC) (c : Option FC) (n : Nat) (P : FC → Prop) (up : (Nat → α) → Nat → α → (Nat → α)) (j : Nat) (v : α) : Prop := ∃ f' : Nat → α, c = some (mk n f') ∧ P (mk n (up f' j v))
theorem op2I_c {n j : Nat} {f : Nat → Int32} {v : Int32} {P : FC → Prop} : op2 aI (some (aI n f)) n P upd j v = P (aI n (upd f j v)) := propext ⟨by rintro ⟨f', h1, h2⟩; cases h1; exact h2, fun q => ⟨f, rfl, q⟩⟩
theorem op2L_c {n j : Nat} {f : Nat → Int64} {v : Int64} {P : FC → Prop} : op2 aL (some (aL n f)) n P vp_updL j v = P (aL n (vp_updL f j v)) := propext ⟨by rintro ⟨f', h1, h2⟩; cases h1; exact h2, fun q => ⟨f, rfl, q⟩⟩
theorem x_opaI {ins : Instr} {op : Int32 → Int32 → Int32} {r : XR} {i e : XI} {g : GE} {Q : LE → FH → Bd → Prop} {R : Option Value → FH → Prop} {env : LE} {h : FH} {b : Bd} : (s_opaI ins op r i e).2 g Q R env h b = r.2 g (fun r h b => gO r (fun a => i.2 g (fun z h b => opI (h.2 a) z (fun n j f => e.2 g (fun x h b => op2 aI (h.2 a) n (fun c => Q env (hset h a c) b) upd j (op (f j) x)) env h b)) env h b)) env h b := by
  refine congrArg (fun q => r.2 g q env h b) (funext fun r => funext fun h => funext fun b => ?_)
  exact gO_iff
theorem x_opaL {ins : Instr} {op : Int64 → Int64 → Int64} {r : XR} {i : XI} {e : XL} {g : GE} {Q : LE → FH → Bd → Prop} {R : Option Value → FH → Prop} {env : LE} {h : FH} {b : Bd} : (s_opaL ins op r i e).2 g Q R env h b = r.2 g (fun r h b => gO r (fun a => i.2 g (fun z h b => opL (h.2 a) z (fun n j f => e.2 g (fun x h b => op2 aL (h.2 a) n (fun c => Q env (hset h a c) b) vp_updL j (op (f j) x)) env h b)) env h b)) env h b := by
  refine congrArg (fun q => r.2 g q env h b) (funext fun r => funext fun h => funext fun b => ?_)
  exact gO_iff
theorem x_sif {c : XC} {a : ST} {g : GE} {Q : LE → FH → Bd → Prop} {R : Option Value → FH → Prop} {env : LE} {h : FH} {b : Bd} : (s_if c a).2 g Q R env h b = c.2 g (fun v h' b' => cnd v (a.2 g Q R env h' b') (Q env h' b')) env h b := rfl
theorem x_ite {c : XC} {a d : ST} {g : GE} {Q : LE → FH → Bd → Prop} {R : Option Value → FH → Prop} {env : LE} {h : FH} {b : Bd} : (s_ite c a d).2 g Q R env h b = c.2 g (fun v h' b' => cnd v (a.2 g Q R env h' b') (d.2 g Q R env h' b')) env h b := rfl
theorem x_retI {e : XI} {g : GE} {Q : LE → FH → Bd → Prop} {R : Option Value → FH → Prop} {env : LE} {h : FH} {b : Bd} : (s_retI e).2 g Q R env h b = e.2 g (fun x h _ => R (some (.int x)) h) env h b := rfl
theorem x_retZ {e : XI} {g : GE} {Q : LE → FH → Bd → Prop} {R : Option Value → FH → Prop} {env : LE} {h : FH} {b : Bd} : (s_retZ e).2 g Q R env h b = e.2 g (fun x h _ => (x = 0 ∨ x = 1) ∧ R (some (.int x)) h) env h b := rfl
theorem x_retL {e : XL} {g : GE} {Q : LE → FH → Bd → Prop} {R : Option Value → FH → Prop} {env : LE} {h : FH} {b : Bd} : (s_retL e).2 g Q R env h b = e.2 g (fun x h _ => R (some (.long x)) h) env h b := rfl
theorem x_retR {e : XR} {g : GE} {Q : LE → FH → Bd → Prop} {R : Option Value → FH → Prop} {env : LE} {h : FH} {b : Bd} : (s_retR e).2 g Q R env h b = e.2 g (fun x h _ => R (some (va_rf x)) h) env h b := rfl
theorem x_ret {g : GE} {Q : LE → FH → Bd → Prop} {R : Option Value → FH → Prop} {env : LE} {h : FH} {b : Bd} : s_ret.2 g Q R env h b = R none h := rfl
theorem x_pop {e : XI} {g : GE} {Q : LE → FH → Bd → Prop} {R : Option Value → FH → Prop} {env : LE} {h : FH} {b : Bd} : (s_pop e).2 g Q R env h b = e.2 g (fun _ h b => Q env h b) env h b := rfl
theorem lR_ex {v : Option Value} {P : Prop} : (∃ a : Nat, v = some (.ref a) ∧ P) = lR v (fun r => gO r (fun _ => P)) := propext ⟨by rintro ⟨a, rfl, q⟩; exact q, fun q => by
  unfold lR at q
  split at q
  · exact ⟨_, rfl, q⟩
  · exact q.elim
  · exact q.elim⟩
theorem x_sup {g : GE} {Q : LE → FH → Bd → Prop} {R : Option Value → FH → Prop} {env : LE} {h : FH} {b : Bd} : s_sup.2 g Q R env h b = (1 ≤ g.1 ∧ lR (elg env 0) (fun r => gO r (fun _ => Q env h b))) := congrArg (fun P => 1 ≤ g.1 ∧ P) lR_ex
/-! the heap -/
theorem hs_eq {h : FH} {a : Nat} {c : FC} : (hset h a c).2 a = some c := if_pos rfl
theorem hs_ne {h : FH} {a x : Nat} {c : FC} (hx : x ≠ a) : (hset h a c).2 x = h.2 x := if_neg hx
theorem hs_1 {h : FH} {a : Nat} {c : FC} : (hset h a c).1 = h.1 := rfl
theorem hn_eq {h : FH} {c : FC} : (hnew h c).2 h.1 = some c := if_pos rfl
theorem hn_ne {h : FH} {x : Nat} {c : FC} (hx : x ≠ h.1) : (hnew h c).2 x = h.2 x := if_neg hx
theorem hn_1 {h : FH} {c : FC} : (hnew h c).1 = h.1 + 1 := rfl
/-! numbers -/
def b2i (p : Bool) : Int32 := if p then 1 else 0
theorem b2_t : b2i true = nI 1 := rfl
theorem b2_f : b2i false = nI 0 := rfl
theorem b2_01 {p : Bool} : (b2i p = 0 ∨ b2i p = 1) = True := by cases p <;> simp [b2i]
theorem b2_ne {p : Bool} : icm .ne (b2i p) 0 = p := by cases p <;> rfl
theorem nI01_0 : (nI 0 = 0 ∨ nI 0 = 1) = True := eq_true (Or.inl rfl)
theorem nI01_1 : (nI 1 = 0 ∨ nI 1 = 1) = True := eq_true (Or.inr rfl)
theorem oI_n {k : Nat} : Int32.ofInt (OfNat.ofNat k : Int) = nI k := rfl
theorem iq_lt {a b : Nat} (ha : a < 2147483648) (hb : b < 2147483648) : icm .lt (nI a) (nI b) = decide (a < b) := decide_eq_decide.mpr (nI_ltI ha hb)
theorem iq_le {a b : Nat} (ha : a < 2147483648) (hb : b < 2147483648) : icm .le (nI a) (nI b) = decide (a ≤ b) := decide_eq_decide.mpr (nI_leI ha hb)
theorem iq_ge {a b : Nat} (ha : a < 2147483648) (hb : b < 2147483648) : icm .ge (nI a) (nI b) = decide (b ≤ a) := decide_eq_decide.mpr (nI_leI hb ha)
theorem iq_gt {a b : Nat} (ha : a < 2147483648) (hb : b < 2147483648) : icm .gt (nI a) (nI b) = decide (b < a) := decide_eq_decide.mpr (nI_ltI hb ha)
theorem iq_eq {a b : Nat} (ha : a < 2147483648) (hb : b < 2147483648) : icm .eq (nI a) (nI b) = decide (a = b) := decide_eq_decide.mpr (nI_eq ha hb)
theorem iq_ne {a b : Nat} (ha : a < 2147483648) (hb : b < 2147483648) : icm .ne (nI a) (nI b) = !decide (a = b) := congrArg (! ·) (decide_eq_decide.mpr (nI_eq ha hb))
theorem iq_eq0 {a : Nat} (ha : a < 2147483648) : icm .eq (nI a) 0 = decide (a = 0) := iq_eq (b := 0) ha (by omega)
theorem iq_ne0 {a : Nat} (ha : a < 2147483648) : icm .ne (nI a) 0 = !decide (a = 0) := iq_ne (b := 0) ha (by omega)
theorem iq_lt0 {a : Nat} (ha : a < 2147483648) : icm .lt (nI a) 0 = false := decide_eq_false (nI_pos ha)
theorem iq_ge0 {a : Nat} (ha : a < 2147483648) : icm .ge (nI a) 0 = true := decide_eq_true (nI_pos' ha)
theorem iq_gt0 {a : Nat} (ha : a < 2147483648) : icm .gt (nI a) 0 = decide (0 < a) := iq_gt (b := 0) ha (by omega)
theorem iq_le0 {a : Nat} (ha : a < 2147483648) : icm .le (nI a) 0 = decide (a ≤ 0) := iq_le (b := 0) ha (by omega)
theorem k_nn : ∀ n, n < 32 → ((nI n &&& 31).toBitVec.smod 32).toNat = n := s_l
theorem n_shr {a k : Nat} (ha : a < 2147483648) (hk : k < 32) : nI a >>> (nI k &&& 31) = nI (a / 2 ^ k) := pk_shrN ha _ k (s_l k hk)
theorem n_shl {a k : Nat} (hk : k < 32) : nI a <<< (nI k &&& 31) = nI (a * 2 ^ k) := by
  apply Int32.toBitVec_inj.mp
  rw [Int32.toBitVec_shiftLeft]
  show BitVec.ofNat 32 a <<< ((nI k &&& 31).toBitVec.smod 32).toNat = BitVec.ofNat 32 (a * 2 ^ k)
  rw [s_l k hk]
  apply BitVec.eq_of_toNat_eq
  rw [BitVec.toNat_shiftLeft, BitVec.toNat_ofNat, BitVec.toNat_ofNat, Nat.shiftLeft_eq, Nat.mod_mul_mod]
theorem n_one {k : Nat} (hk : k < 32) : nI 1 <<< (nI k &&& 31) = nI (2 ^ k) := by rw [n_shl hk, Nat.one_mul]
/-- one bit -/
theorem n_bit (x : Int32) {e : Nat} (he : e < 32) : icm .ne (x >>> (nI e &&& 31) &&& nI 1) 0 = bt x e := by
  have h : bt (x >>> (nI e &&& 31) &&& nI 1) 0 = bt x e := by
    rw [b_and, b_sshr e he x (by omega)]
    simp only [Nat.add_zero, he, if_true]
    rw [show bt (nI 1) 0 = true from rfl, Bool.and_true]
  have h2 : x >>> (nI e &&& 31) &&& nI 1 = b2i (bt x e) := by
    apply b_ext
    intro i hi
    rw [← h]
    generalize x >>> (nI e &&& 31) = y
    rw [b_and, b_and, show bt (nI 1) 0 = true from rfl, Bool.and_true]
    have h1 : bt (nI 1) i = decide (i = 0) := (by decide +kernel : ∀ i, i < 32 → bt (nI 1) i = decide (i = 0)) i hi
    rw [h1]
    by_cases hz : i = 0
    · subst hz
      cases bt y 0 <;> decide
    · rw [decide_eq_false hz, Bool.and_false]
      have h3 : ∀ i, i < 32 → i ≠ 0 → false = bt (b2i true) i := by decide +kernel
      cases bt y 0
      · exact (b_0 i).symm
      · exact h3 i hi hz
  rw [h2, b2_ne]
theorem bt_n {m e : Nat} (he : e < 32) : bt (nI m) e = m.testBit e := by
  show (BitVec.ofNat 32 m).getLsbD e = _
  rw [BitVec.getLsbD_ofNat, decide_eq_true he, Bool.true_and]
