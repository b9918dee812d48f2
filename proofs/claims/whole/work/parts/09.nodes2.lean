/-! nodes that read cells; conditions; calls -/
def i_fld (ci k : Nat) (r : XR) : XI := (fun S sd pc => match r.1 S sd pc with
    | some p1 => (match decode (cby S) p1 with | .ok (.getfield idx, 3) => if lkF (cow S) idx = some (ci, k) then some (p1 + 3) else none | _ => none)
    | none => none, fun g Q env h b => r.2 g (fun r h b => ∃ (a : Nat) (fs : List Value) (x : Int32), r = some a ∧ h.2 a = some (.inr (ci, fs)) ∧ fs[k]? = some (.int x) ∧ Q x h b) env h b)
def l_fld (ci k : Nat) (r : XR) : XL := (fun S sd pc => match r.1 S sd pc with
    | some p1 => (match decode (cby S) p1 with | .ok (.getfield idx, 3) => if lkF (cow S) idx = some (ci, k) then some (p1 + 3) else none | _ => none)
    | none => none, fun g Q env h b => r.2 g (fun r h b => ∃ (a : Nat) (fs : List Value) (x : Int64), r = some a ∧ h.2 a = some (.inr (ci, fs)) ∧ fs[k]? = some (.long x) ∧ Q x h b) env h b)
def r_fld (ci k : Nat) (r : XR) : XR := (fun S sd pc => match r.1 S sd pc with
    | some p1 => (match decode (cby S) p1 with | .ok (.getfield idx, 3) => if lkF (cow S) idx = some (ci, k) then some (p1 + 3) else none | _ => none)
    | none => none, fun g Q env h b => r.2 g (fun r h b => ∃ (a : Nat) (fs : List Value) (x : Option Nat), r = some a ∧ h.2 a = some (.inr (ci, fs)) ∧ fs[k]? = some (va_rf x) ∧ Q x h b) env h b)
theorem OK_fldG {α : Type} {va : α → Value} {ci k : Nat} {r : XR} {e : E α} (he1 : ∀ S sd pc, e.1 S sd pc = match r.1 S sd pc with
    | some p1 => (match decode (cby S) p1 with | .ok (.getfield idx, 3) => if lkF (cow S) idx = some (ci, k) then some (p1 + 3) else none | _ => none)
    | none => none) (he2 : ∀ g Q env h b, e.2 g Q env h b = r.2 g (fun r h b => ∃ (a : Nat) (fs : List Value) (x : α), r = some a ∧ h.2 a = some (.inr (ci, fs)) ∧ fs[k]? = some (va x) ∧ Q x h b) env h b) (hr : OKR r) : OKE va e := by
  refine ⟨fun S sd pc pc' h => ?_, fun g Q Q' env h b hm hq => ?_, fun K X sd pc pc' hc Q env st h b hw hq kk => ?_⟩
  · rw [he1] at h
    split at h
    · rename_i p1 h1; exact hr.1 S sd pc p1 h1
    · cases h
  · rw [he2] at hq ⊢
    refine hr.2.1 g _ _ env h b (fun v h' b' hv => ?_) hq
    obtain ⟨a, fs, x, h1, h2, h3, h4⟩ := hv
    exact ⟨a, fs, x, h1, h2, h3, hm _ _ _ h4⟩
  · rw [he1] at hc
    rw [he2] at hq
    split at hc
    · rename_i p1 h1
      split at hc
      · rename_i idx hd
        split at hc
        · rename_i hl
          cases hc
          refine hr.2.2 K X sd pc p1 h1 _ env st h b hw hq (fun v h' b' hv => Jf.of (fl1_of hd (by simp)) ?_)
          obtain ⟨a, fs, x, rfl, h2, h3, h4⟩ := hv
          exact J_getf X hd hl h2 h3 ((kk x h' b' h4).j X)
        · cases hc
      · cases hc
    · cases hc
theorem OK_ifld {ci k : Nat} {r : XR} (hr : OKR r) : OKI (i_fld ci k r) := OK_fldG (fun _ _ _ => rfl) (fun _ _ _ _ _ => rfl) hr
theorem OK_lfld {ci k : Nat} {r : XR} (hr : OKR r) : OKL (l_fld ci k r) := OK_fldG (fun _ _ _ => rfl) (fun _ _ _ _ _ => rfl) hr
theorem OK_rfld {ci k : Nat} {r : XR} (hr : OKR r) : OKR (r_fld ci k r) := OK_fldG (fun _ _ _ => rfl) (fun _ _ _ _ _ => rfl) hr
/-- array elements: cell (n, f) at index j -/
def e_ald {α : Type} (ins : Instr) (mk : Nat → (Nat → α) → FC → Prop) (r : XR) (i : XI) : E α := (fun S sd pc => match r.1 S sd pc with
    | some p1 => match i.1 S (sd + 1) p1 with
      | some p2 => if isI S p2 ins 1 then some (p2 + 1) else none
      | none => none
    | none => none, fun g Q env h b => r.2 g (fun r h b => ∃ a : Nat, r = some a ∧ i.2 g (fun z h b => ∃ (n : Nat) (f : Nat → α) (c : FC) (j : Nat), h.2 a = some c ∧ mk n f c ∧ z = nI j ∧ j < n ∧ j < 2147483648 ∧ Q (f j) h b) env h b) env h b)
theorem OK_ald {α : Type} {va : α → Value} {ins : Instr} {mk : Nat → (Nat → α) → FC → Prop} {r : XR} {i : XI} (hg : ∀ off, ins ≠ .goto off)
    (row : ∀ (K : KT) (pc : Nat) (env : LE) (st : List Value) (h : FH) (b : Bd) (a n j : Nat) (f : Nat → α) (c : FC), JOK K → decode (cby K.2.2.1) pc = .ok (ins, 1) → h.2 a = some c → mk n f c → j < n → j < 2147483648 → J K (pc + 1) env (va (f j) :: st) h b → J K pc env (.int (nI j) :: .ref a :: st) h b)
    (hr : OKR r) (hi : OKI i) : OKE va (e_ald ins mk r i) := by
  refine ⟨fun S sd pc pc' h => ?_, fun g Q Q' env h b hm hq => ?_, fun K X sd pc pc' hc Q env st h b hw hq kk => ?_⟩
  · unfold e_ald at h
    dsimp only at h
    split at h
    · rename_i p1 h1; exact hr.1 S sd pc p1 h1
    · cases h
  · refine hr.2.1 g _ _ env h b (fun v h' b' hv => ?_) hq
    obtain ⟨a, h1, h2⟩ := hv
    refine ⟨a, h1, hi.2.1 g _ _ env h' b' (fun z h'' b'' hz => ?_) h2⟩
    obtain ⟨n, f, c, j, q1, q2, q3, q4, q5, q6⟩ := hz
    exact ⟨n, f, c, j, q1, q2, q3, q4, q5, hm _ _ _ q6⟩
  · unfold e_ald at hc hq
    dsimp only at hc hq
    split at hc
    · rename_i p1 h1
      split at hc
      · rename_i p2 h2
        split at hc
        · rename_i hd
          cases hc
          refine hr.2.2 K X sd pc p1 h1 _ env st h b hw hq (fun v h' b' hv => Jf.of (hi.1 _ _ _ _ h2) ?_)
          obtain ⟨a, rfl, h3⟩ := hv
          refine hi.2.2 K X (sd + 1) p1 p2 h2 _ env (.ref a :: st) h' b' (by rw [sw_cons]; show 1 + _ ≤ _; omega) h3 (fun z h'' b'' hz => Jf.of (fl1_of (isI_d hd) hg) ?_)
          obtain ⟨n, f, c, j, q1, q2, rfl, q4, q5, q6⟩ := hz
          exact row K p2 env st h'' b'' a n j f c X (isI_d hd) q1 q2 q4 q5 ((kk _ h'' b'' q6).j X)
        · cases hc
      · cases hc
    · cases hc
def mkI (n : Nat) (f : Nat → Int32) (c : FC) : Prop := c = aI n f
def mkZ (n : Nat) (f : Nat → Int32) (c : FC) : Prop := c = aZ n f
def mkL (n : Nat) (f : Nat → Int64) (c : FC) : Prop := c = aL n f
def mkR (n : Nat) (f : Nat → Option Nat) (c : FC) : Prop := ∃ ty : FieldType, ty.isReference = true ∧ c = aR ty n f
def i_ald (r : XR) (i : XI) : XI := e_ald .iaload mkI r i
def i_zald (r : XR) (i : XI) : XI := e_ald .baload mkZ r i
def l_ald (r : XR) (i : XI) : XL := e_ald .laload mkL r i
def r_ald (r : XR) (i : XI) : XR := e_ald .aaload mkR r i
theorem OK_iald {r : XR} {i : XI} (hr : OKR r) (hi : OKI i) : OKI (i_ald r i) := OK_ald (by simp) (fun K pc env st h b a n j f c X hd h1 h2 h3 h4 k => by cases h2; exact J_iald X hd h1 h3 h4 k) hr hi
theorem OK_zald {r : XR} {i : XI} (hr : OKR r) (hi : OKI i) : OKI (i_zald r i) := OK_ald (by simp) (fun K pc env st h b a n j f c X hd h1 h2 h3 h4 k => by cases h2; exact J_zald X hd h1 h3 h4 k) hr hi
theorem OK_lald {r : XR} {i : XI} (hr : OKR r) (hi : OKI i) : OKL (l_ald r i) := OK_ald (by simp) (fun K pc env st h b a n j f c X hd h1 h2 h3 h4 k => by cases h2; exact J_lald X hd h1 h3 h4 k) hr hi
theorem OK_rald {r : XR} {i : XI} (hr : OKR r) (hi : OKI i) : OKR (r_ald r i) := OK_ald (by simp) (fun K pc env st h b a n j f c X hd h1 h2 h3 h4 k => by obtain ⟨ty, t1, rfl⟩ := h2; exact J_aald X hd h1 t1 h3 h4 k) hr hi
def i_len (r : XR) : XI := (fun S sd pc => match r.1 S sd pc with
    | some p1 => if isI S p1 .arraylength 1 then some (p1 + 1) else none
    | none => none, fun g Q env h b => r.2 g (fun r h b => ∃ (a : Nat) (ty : FieldType) (x : vp_A), r = some a ∧ h.2 a = some (.inl (ty, x)) ∧ Q (nI x.1) h b) env h b)
theorem OK_len {r : XR} (hr : OKR r) : OKI (i_len r) := by
  refine ⟨fun S sd pc pc' h => ?_, fun g Q Q' env h b hm hq => ?_, fun K X sd pc pc' hc Q env st h b hw hq kk => ?_⟩
  · unfold i_len at h
    dsimp only at h
    split at h
    · rename_i p1 h1; exact hr.1 S sd pc p1 h1
    · cases h
  · refine hr.2.1 g _ _ env h b (fun v h' b' hv => ?_) hq
    obtain ⟨a, ty, x, h1, h2, h3⟩ := hv
    exact ⟨a, ty, x, h1, h2, hm _ _ _ h3⟩
  · unfold i_len at hc hq
    dsimp only at hc hq
    split at hc
    · rename_i p1 h1
      split at hc
      · rename_i hd
        cases hc
        refine hr.2.2 K X sd pc p1 h1 _ env st h b hw hq (fun v h' b' hv => Jf.of (fl1_of (isI_d hd) (by simp)) ?_)
        obtain ⟨a, ty, x, rfl, h2, h3⟩ := hv
        exact J_alen X (isI_d hd) h2 ((kk _ h' b' h3).j X)
      · cases hc
    · cases hc
/-- WEIGHTS[i]; script[i], script.length (the law's own; local 0) -/
def i_wt (i : XI) : XI := (fun S sd pc => if cow S = 0 ∧ isI S pc (.getstatic wtIdx.2.1) 3 = true then (match i.1 S (sd + 1) (pc + 3) with
    | some p2 => if isI S p2 .iaload 1 then some (p2 + 1) else none
    | none => none) else none, fun g Q env h b => i.2 g (fun z h b => ∃ j : Nat, z = nI j ∧ j < 6 ∧ Q (wtab j) h b) env h b)
theorem OK_wt {i : XI} (hi : OKI i) : OKI (i_wt i) := by
  refine ⟨fun S sd pc pc' h => ?_, fun g Q Q' env h b hm hq => ?_, fun K X sd pc pc' hc Q env st h b hw hq kk => ?_⟩
  · unfold i_wt at h
    dsimp only at h
    split at h
    · rename_i h1; exact fl1_of (isI_d h1.2) (by simp)
    · cases h
  · refine hi.2.1 g _ _ env h b (fun v h' b' hv => ?_) hq
    obtain ⟨j, h1, h2, h3⟩ := hv
    exact ⟨j, h1, h2, hm _ _ _ h3⟩
  · unfold i_wt at hc hq
    dsimp only at hc hq
    split at hc
    · rename_i h1
      split at hc
      · rename_i p2 h2
        split at hc
        · rename_i hd
          cases hc
          refine J_gets X (isI_d h1.2) h1.1 rfl ?_
          refine hi.2.2 K X (sd + 1) (pc + 3) p2 h2 _ env (.ref _ :: st) h b (by rw [sw_cons]; show 1 + _ ≤ _; omega) hq (fun z h' b' hz => Jf.of (fl1_of (isI_d hd) (by simp)) ?_)
          obtain ⟨j, rfl, q2, q3⟩ := hz
          exact J_wald X (isI_d hd) q2 ((kk _ h' b' q3).j X)
        · cases hc
      · cases hc
    · cases hc
def i_scr (i : XI) : XI := (fun S sd pc => if isI S pc (.aload_n 0) 1 = true then (match i.1 S (sd + 1) (pc + 1) with
    | some p2 => if isI S p2 .iaload 1 then some (p2 + 1) else none
    | none => none) else none, fun g Q env h b => elg env 0 = some (.ref g.2.1) ∧ i.2 g (fun z h b => ∃ j : Nat, z = nI j ∧ j < g.2.2.1 ∧ j < 2147483648 ∧ Q (g.2.2.2.1 j) h b) env h b)
theorem OK_scr {i : XI} (hi : OKI i) : OKI (i_scr i) := by
  refine ⟨fun S sd pc pc' h => ?_, fun g Q Q' env h b hm hq => ?_, fun K X sd pc pc' hc Q env st h b hw hq kk => ?_⟩
  · unfold i_scr at h
    dsimp only at h
    split at h
    · rename_i h1; exact fl1_of (isI_d h1) (by simp)
    · cases h
  · refine ⟨hq.1, hi.2.1 g _ _ env h b (fun v h' b' hv => ?_) hq.2⟩
    obtain ⟨j, h1, h2, h3, h4⟩ := hv
    exact ⟨j, h1, h2, h3, hm _ _ _ h4⟩
  · unfold i_scr at hc hq
    dsimp only at hc hq
    split at hc
    · rename_i h1
      split at hc
      · rename_i p2 h2
        split at hc
        · rename_i hd
          cases hc
          refine J_aload_n (r := some (kG K).2.1) hq.1 X (isI_d h1) ?_
          refine hi.2.2 K X (sd + 1) (pc + 1) p2 h2 _ env (.ref _ :: st) h b (by rw [sw_cons]; show 1 + _ ≤ _; omega) hq.2 (fun z h' b' hz => Jf.of (fl1_of (isI_d hd) (by simp)) ?_)
          obtain ⟨j, rfl, q2, q3, q4⟩ := hz
          exact J_sald X (isI_d hd) q2 q3 ((kk _ h' b' q4).j X)
        · cases hc
      · cases hc
    · cases hc
def i_slen : XI := (fun S _ pc => if isI S pc (.aload_n 0) 1 = true ∧ isI S (pc + 1) .arraylength 1 = true then some (pc + 2) else none, fun g Q env h b => elg env 0 = some (.ref g.2.1) ∧ Q (nI g.2.2.1) h b)
theorem OK_slen : OKI i_slen := by
  refine ⟨fun S sd pc pc' h => ?_, fun g Q Q' env h b hm hq => ⟨hq.1, hm _ _ _ hq.2⟩, fun K X sd pc pc' hc Q env st h b hw hq kk => ?_⟩
  · unfold i_slen at h
    dsimp only at h
    split at h
    · rename_i h1; exact fl1_of (isI_d h1.1) (by simp)
    · cases h
  · unfold i_slen at hc hq
    dsimp only at hc hq
    split at hc
    · rename_i h1
      cases hc
      exact J_aload_n (r := some (kG K).2.1) hq.1 X (isI_d h1.1) (J_slen X (isI_d h1.2) ((kk _ h b hq.2).j X))
    · cases hc
/-! conditions; mode true: it jumps when it holds, and goes on when not -/
def ngC : Jvm.ClassFile.Cond → Jvm.ClassFile.Cond
  | .eq => .ne
  | .ne => .eq
  | .lt => .ge
  | .ge => .lt
  | .gt => .le
  | .le => .gt
theorem icm_ng (c : Jvm.ClassFile.Cond) (x y : Int32) : icm (ngC c) x y = !icm c x y := by
  cases c with
  | eq => rfl
  | ne => show decide (x = y) = !(!decide (x = y)); rw [Bool.not_not]
  | lt => show decide (y ≤ x) = !decide (x < y); rw [← decide_not]; exact decide_eq_decide.mpr Int32.not_lt.symm
  | ge => show decide (x < y) = !decide (y ≤ x); rw [← decide_not]; exact decide_eq_decide.mpr Int32.not_le.symm
  | gt => show decide (x ≤ y) = !decide (y < x); rw [← decide_not]; exact decide_eq_decide.mpr Int32.not_lt.symm
  | le => show decide (y < x) = !decide (x ≤ y); rw [← decide_not]; exact decide_eq_decide.mpr Int32.not_le.symm
def cM (m : Bool) (c : Jvm.ClassFile.Cond) : Jvm.ClassFile.Cond := match m with | true => c | false => ngC c
def jtgt (pc : Nat) (off : Int) : Option Nat := if 0 ≤ (pc : Int) + off then some ((pc : Int) + off).toNat else none
theorem jtgt_ok {pc t : Nat} {off : Int} (h : jtgt pc off = some t) : (pc : Int) + off = (t : Int) := by
  unfold jtgt at h
  split at h
  · cases h; omega
  · cases h
/-- the jump behind the operands -/
def cjmp (m : Bool) (p : Nat) (o : Option Nat) : Option (Nat × List Nat × List Nat) := o.map (fun t => if m then (p + 3, [t], []) else (p + 3, [], [t]))
def c_icmp (c : Jvm.ClassFile.Cond) (a b : XI) : XC := (fun S m sd pc => match a.1 S sd pc with
    | some p1 => match b.1 S (sd + 1) p1 with
      | some p2 => (match decode (cby S) p2 with | .ok (.if_icmp c2 off, 3) => if c2 = cM m c then cjmp m p2 (jtgt p2 off) else none | _ => none)
      | none => none
    | none => none, fun g Q env h bd => a.2 g (fun x h bd => b.2 g (fun y h bd => Q (icm c x y) h bd) env h bd) env h bd)
def c_if (c : Jvm.ClassFile.Cond) (a : XI) : XC := (fun S m sd pc => match a.1 S sd pc with
    | some p2 => (match decode (cby S) p2 with | .ok (.ifCond c2 off, 3) => if c2 = cM m c then cjmp m p2 (jtgt p2 off) else none | _ => none)
    | none => none, fun g Q env h bd => a.2 g (fun x h bd => Q (icm c x 0) h bd) env h bd)
theorem cjmp_out {m : Bool} {p p' t : Nat} {o : Option Nat} {ts fs : List Nat} (h : cjmp m p o = some (p', ts, fs)) (ho : o = some t) : p' = p + 3 ∧ ((m = true ∧ ts = [t] ∧ fs = []) ∨ (m = false ∧ ts = [] ∧ fs = [t])) := by
  subst ho
  unfold cjmp at h
  cases m <;> simp at h <;> simp [h]
theorem cjmp_some {m : Bool} {p : Nat} {o : Option Nat} {q : Nat × List Nat × List Nat} (h : cjmp m p o = some q) : ∃ t, o = some t := by
  unfold cjmp at h
  cases o with
  | none => cases h
  | some t => exact ⟨t, rfl⟩
/-- the two ways behind a jump, for a condition that holds when v -/
theorem cjmp_go {K : KT} {m : Bool} {p p' t : Nat} {o : Option Nat} {ts fs : List Nat} {env : LE} {st : List Value} {h' : FH} {b' : Bd} {Q : Bool → FH → Bd → Prop} {v : Bool} (X : JOK K) (h : cjmp m p o = some (p', ts, fs)) (ho : o = some t) (hv : Q v h' b')
    (kt : ∀ h' b', Q true h' b' → (∀ t ∈ ts, Jf K t env st h' b') ∧ (m = false → Jf K p' env st h' b')) (kf : ∀ h' b', Q false h' b' → (∀ t ∈ fs, Jf K t env st h' b') ∧ (m = true → Jf K p' env st h' b')) :
    ((if m then v else !v) = true → J K t env st h' b') ∧ ((if m then v else !v) = false → J K (p + 3) env st h' b') := by
  obtain ⟨rfl, hcs⟩ := cjmp_out h ho
  rcases hcs with ⟨rfl, rfl, rfl⟩ | ⟨rfl, rfl, rfl⟩
  · refine ⟨fun e => ?_, fun e => ?_⟩
    · rw [if_pos rfl] at e
      subst e
      exact ((kt h' b' hv).1 t (by simp)).j X
    · rw [if_pos rfl] at e
      subst e
      exact ((kf h' b' hv).2 rfl).j X
  · refine ⟨fun e => ?_, fun e => ?_⟩
    · have e : v = false := by simpa using e
      subst e
      exact ((kf h' b' hv).1 t (by simp)).j X
    · have e : v = true := by simpa using e
      subst e
      exact ((kt h' b' hv).2 rfl).j X
theorem icm_m (m : Bool) (c : Jvm.ClassFile.Cond) (x y : Int32) : icm (cM m c) x y = if m then icm c x y else !icm c x y := by
  cases m
  · exact icm_ng c x y
  · rfl
theorem OK_icmp {c : Jvm.ClassFile.Cond} {a b : XI} (ha : OKI a) (hb : OKI b) : OKC (c_icmp c a b) := by
  refine ⟨fun S m sd pc q h => ?_, fun g Q Q' env h bd hm hq => ha.2.1 g _ _ env h bd (fun v h' b' hv => hb.2.1 g _ _ env h' b' (fun v h' b' => hm _ _ _) hv) hq, fun K X m sd pc p' ts fs hc Q env st h bd hw hq kt kf => ?_⟩
  · unfold c_icmp at h
    dsimp only at h
    split at h
    · rename_i p1 h1; exact ha.1 S sd pc p1 h1
    · cases h
  · unfold c_icmp at hc hq
    dsimp only at hc hq
    split at hc
    · rename_i p1 h1
      split at hc
      · rename_i p2 h2
        split at hc
        · rename_i c2 off hd
          split at hc
          · rename_i he
            obtain ⟨t, ht⟩ := cjmp_some hc
            refine ha.2.2 K X sd pc p1 h1 _ env st h bd hw hq (fun x h' b' hx => Jf.of (hb.1 _ _ _ _ h2) ?_)
            refine hb.2.2 K X (sd + 1) p1 p2 h2 _ env (.int x :: st) h' b' (by rw [sw_cons]; show 1 + _ ≤ _; omega) hx (fun y h'' b'' hy => Jf.of (fl1_of hd (by simp)) ?_)
            have hgo := cjmp_go (env := env) (st := st) X hc ht hy kt kf
            rw [← icm_m, ← he] at hgo
            exact J_icmp X hd (jtgt_ok ht) hgo.1 hgo.2
          · cases hc
        · cases hc
      · cases hc
    · cases hc
theorem OK_if {c : Jvm.ClassFile.Cond} {a : XI} (ha : OKI a) : OKC (c_if c a) := by
  refine ⟨fun S m sd pc q h => ?_, fun g Q Q' env h bd hm hq => ha.2.1 g _ _ env h bd (fun v h' b' hv => hm _ _ _ hv) hq, fun K X m sd pc p' ts fs hc Q env st h bd hw hq kt kf => ?_⟩
  · unfold c_if at h
    dsimp only at h
    split at h
    · rename_i p1 h1; exact ha.1 S sd pc p1 h1
    · cases h
  · unfold c_if at hc hq
    dsimp only at hc hq
    split at hc
    · rename_i p2 h2
      split at hc
      · rename_i c2 off hd
        split at hc
        · rename_i he
          obtain ⟨t, ht⟩ := cjmp_some hc
          refine ha.2.2 K X sd pc p2 h2 _ env st h bd hw hq (fun x h' b' hx => Jf.of (fl1_of hd (by simp)) ?_)
          have hgo := cjmp_go (env := env) (st := st) X hc ht hx kt kf
          rw [← icm_m, ← he] at hgo
          exact J_ifc X hd (jtgt_ok ht) hgo.1 hgo.2
        · cases hc
      · cases hc
    · cases hc
/-- a boolean expression as a condition -/
def c_b (a : XI) : XC := c_if .ne a
/-- r == null (b true), r != null (b false) -/
def c_nul (b : Bool) (r : XR) : XC := (fun S m sd pc => match r.1 S sd pc with
    | some p2 => (match decode (cby S) p2 with | .ok (.ifnull off, 3) => if b = m then cjmp m p2 (jtgt p2 off) else none | .ok (.ifnonnull off, 3) => if b = !m then cjmp m p2 (jtgt p2 off) else none | _ => none)
    | none => none, fun g Q env h bd => r.2 g (fun x h bd => Q (if b then x.isNone else x.isSome) h bd) env h bd)
theorem OK_nul {b : Bool} {r : XR} (ha : OKR r) : OKC (c_nul b r) := by
  refine ⟨fun S m sd pc q h => ?_, fun g Q Q' env h bd hm hq => ha.2.1 g _ _ env h bd (fun v h' b' hv => hm _ _ _ hv) hq, fun K X m sd pc p' ts fs hc Q env st h bd hw hq kt kf => ?_⟩
  · unfold c_nul at h
    dsimp only at h
    split at h
    · rename_i p1 h1; exact ha.1 S sd pc p1 h1
    · cases h
  · unfold c_nul at hc hq
    dsimp only at hc hq
    split at hc
    · rename_i p2 h2
      split at hc
      · rename_i off hd
        split at hc
        · rename_i he
          obtain ⟨t, ht⟩ := cjmp_some hc
          refine ha.2.2 K X sd pc p2 h2 _ env st h bd hw hq (fun x h' b' hx => Jf.of (fl1_of hd (by simp)) ?_)
          have hgo := cjmp_go (env := env) (st := st) X hc ht hx kt kf
          subst he
          refine J_ifnull X hd (jtgt_ok ht) (fun e => hgo.1 ?_) (fun e => hgo.2 ?_)
          · subst e; cases b <;> rfl
          · cases x with
            | none => exact absurd rfl e
            | some y => cases b <;> rfl
        · cases hc
      · rename_i off hd
        split at hc
        · rename_i he
          obtain ⟨t, ht⟩ := cjmp_some hc
          refine ha.2.2 K X sd pc p2 h2 _ env st h bd hw hq (fun x h' b' hx => Jf.of (fl1_of hd (by simp)) ?_)
          have hgo := cjmp_go (env := env) (st := st) X hc ht hx kt kf
          subst he
          refine J_ifnonnull X hd (jtgt_ok ht) (fun e => hgo.1 ?_) (fun e => hgo.2 ?_)
          · cases x with
            | none => exact absurd rfl e
            | some y => cases m <;> rfl
          · subst e; cases m <;> rfl
        · cases hc
      · cases hc
    · cases hc
/-- longs -/
def c_lcmp (c : Jvm.ClassFile.Cond) (a b : XL) : XC := c_if c (e_bin 2 .lcmp (fun x y => lg_cmp x y) a b)
theorem OK_lcmp {c : Jvm.ClassFile.Cond} {a b : XL} (ha : OKL a) (hb : OKL b) : OKC (c_lcmp c a b) := OK_if (OK_bin (va := Value.long) (vb := Value.long) (by simp) (fun _ => Nat.le_refl _) (fun K pc env st h bd x y X hd k => J_lcmp X hd k) ha hb)
def c_not (c : XC) : XC := (fun S m sd pc => (c.1 S (!m) sd pc).map (fun q => (q.1, q.2.2, q.2.1)), fun g Q env h b => c.2 g (fun v h b => Q (!v) h b) env h b)
theorem OK_not {c : XC} (hc0 : OKC c) : OKC (c_not c) := by
  refine ⟨fun S m sd pc q h => ?_, fun g Q Q' env h bd hm hq => hc0.2.1 g _ _ env h bd (fun v h' b' hv => hm _ _ _ hv) hq, fun K X m sd pc p' ts fs hc Q env st h bd hw hq kt kf => ?_⟩
  · unfold c_not at h
    simp only [Option.map_eq_some_iff] at h
    obtain ⟨q0, h1, -⟩ := h
    exact hc0.1 S (!m) sd pc q0 h1
  · unfold c_not at hc hq
    simp only [Option.map_eq_some_iff] at hc
    obtain ⟨⟨p2, ts2, fs2⟩, h1, h2⟩ := hc
    simp only [Prod.mk.injEq] at h2
    obtain ⟨rfl, rfl, rfl⟩ := h2
    refine hc0.2.2 K X (!m) sd pc p2 ts2 fs2 h1 _ env st h bd hw hq (fun h' b' hv => ?_) (fun h' b' hv => ?_)
    · obtain ⟨g1, g2⟩ := kf h' b' hv
      exact ⟨g1, fun e => g2 (by simpa using e)⟩
    · obtain ⟨g1, g2⟩ := kt h' b' hv
      exact ⟨g1, fun e => g2 (by simpa using e)⟩
def c_and (a b : XC) : XC := (fun S m sd pc => match a.1 S false sd pc with
    | some (p1, ts1, fs1) => if flA (cby S) ts1 p1 then (b.1 S m sd p1).map (fun q => (q.1, q.2.1, fs1 ++ q.2.2)) else none
    | none => none, fun g Q env h bd => a.2 g (fun v h' b' => cnd v (b.2 g Q env h' b') (Q false h' b')) env h bd)
def c_or (a b : XC) : XC := (fun S m sd pc => match a.1 S true sd pc with
    | some (p1, ts1, fs1) => if flA (cby S) fs1 p1 then (b.1 S m sd p1).map (fun q => (q.1, ts1 ++ q.2.1, q.2.2)) else none
    | none => none, fun g Q env h bd => a.2 g (fun v h' b' => cnd v (Q true h' b') (b.2 g Q env h' b')) env h bd)
theorem OK_cand {a b : XC} (ha : OKC a) (hb : OKC b) : OKC (c_and a b) := by
  refine ⟨fun S m sd pc q h => ?_, fun g Q Q' env h bd hm hq => ha.2.1 g _ _ env h bd (fun v h' b' hv => cnd_mono (hb.2.1 g _ _ env h' b' hm) (hm _ _ _) hv) hq, fun K X m sd pc p' ts fs hc Q env st h bd hw hq kt kf => ?_⟩
  · unfold c_and at h
    dsimp only at h
    split at h
    · rename_i p1 ts1 fs1 h1; exact ha.1 S _ sd pc _ h1
    · cases h
  · unfold c_and at hc hq
    dsimp only at hc hq
    split at hc
    · rename_i p1 ts1 fs1 h1
      split at hc
      · rename_i hf
        simp only [Option.map_eq_some_iff] at hc
        obtain ⟨⟨p2, ts2, fs2⟩, h2, h3⟩ := hc
        simp only [Prod.mk.injEq] at h3
        obtain ⟨rfl, rfl, rfl⟩ := h3
        refine ha.2.2 K X false sd pc p1 ts1 fs1 h1 _ env st h bd hw hq (fun h' b' hv => ?_) (fun h' b' hv => ?_)
        · have hj : Jf K p1 env st h' b' := Jf.of (hb.1 _ _ _ _ _ h2) (hb.2.2 K X m sd p1 p2 ts2 fs2 h2 _ env st h' b' hw (hv.1 rfl) kt (fun h'' b'' hv2 => ⟨fun t ht => (kf h'' b'' hv2).1 t (List.mem_append_right _ ht), (kf h'' b'' hv2).2⟩))
          exact ⟨flA_to hf hj, fun _ => hj⟩
        · exact ⟨fun t ht => (kf h' b' (hv.2 rfl)).1 t (List.mem_append_left _ ht), fun e => by cases e⟩
      · cases hc
    · cases hc
theorem OK_cor {a b : XC} (ha : OKC a) (hb : OKC b) : OKC (c_or a b) := by
  refine ⟨fun S m sd pc q h => ?_, fun g Q Q' env h bd hm hq => ha.2.1 g _ _ env h bd (fun v h' b' hv => cnd_mono (hm _ _ _) (hb.2.1 g _ _ env h' b' hm) hv) hq, fun K X m sd pc p' ts fs hc Q env st h bd hw hq kt kf => ?_⟩
  · unfold c_or at h
    dsimp only at h
    split at h
    · rename_i p1 ts1 fs1 h1; exact ha.1 S _ sd pc _ h1
    · cases h
  · unfold c_or at hc hq
    dsimp only at hc hq
    split at hc
    · rename_i p1 ts1 fs1 h1
      split at hc
      · rename_i hf
        simp only [Option.map_eq_some_iff] at hc
        obtain ⟨⟨p2, ts2, fs2⟩, h2, h3⟩ := hc
        simp only [Prod.mk.injEq] at h3
        obtain ⟨rfl, rfl, rfl⟩ := h3
        refine ha.2.2 K X true sd pc p1 ts1 fs1 h1 _ env st h bd hw hq (fun h' b' hv => ?_) (fun h' b' hv => ?_)
        · exact ⟨fun t ht => (kt h' b' (hv.1 rfl)).1 t (List.mem_append_left _ ht), fun e => by cases e⟩
        · have hj : Jf K p1 env st h' b' := Jf.of (hb.1 _ _ _ _ _ h2) (hb.2.2 K X m sd p1 p2 ts2 fs2 h2 _ env st h' b' hw (hv.2 rfl) (fun h'' b'' hv2 => ⟨fun t ht => (kt h'' b'' hv2).1 t (List.mem_append_right _ ht), (kt h'' b'' hv2).2⟩) kf)
          exact ⟨flA_to hf hj, fun _ => hj⟩
      · cases hc
    · cases hc
def ckE (cc : ByteArray) (o : Option Nat) (p : Nat) : Bool := match o with | some t => flq cc t p | none => false
/-- c ? a : b, and a condition as a value -/
def e_cond {α : Type} (c : XC) (a b : E α) : E α := (fun S sd pc => match c.1 S false sd pc with
    | some (p1, ts, fs) => match a.1 S sd p1 with
      | some p2 => (match decode (cby S) p2 with
        | .ok (.goto off, 3) => match b.1 S sd (p2 + 3) with
          | some p3 => if flA (cby S) ts p1 && flA (cby S) fs (p2 + 3) && ckE (cby S) (jtgt p2 off) p3 then some p3 else none
          | none => none
        | _ => none)
      | none => none
    | none => none, fun g Q env h bd => c.2 g (fun v h' b' => cnd v (a.2 g Q env h' b') (b.2 g Q env h' b')) env h bd)
theorem OK_econd {α : Type} {va : α → Value} {c : XC} {a b : E α} (hc0 : OKC c) (ha : OKE va a) (hb : OKE va b) : OKE va (e_cond c a b) := by
  refine ⟨fun S sd pc pc' h => ?_, fun g Q Q' env h bd hm hq => hc0.2.1 g _ _ env h bd (fun v h' b' hv => cnd_mono (ha.2.1 g _ _ env h' b' hm) (hb.2.1 g _ _ env h' b' hm) hv) hq, fun K X sd pc pc' hc Q env st h bd hw hq kk => ?_⟩
  · unfold e_cond at h
    dsimp only at h
    split at h
    · rename_i p1 ts1 fs1 h1; exact hc0.1 S _ sd pc _ h1
    · cases h
  · unfold e_cond at hc hq
    dsimp only at hc hq
    split at hc
    · rename_i p1 ts fs h1
      split at hc
      · rename_i p2 h2
        split at hc
        · rename_i off hd
          split at hc
          · rename_i p3 h3
            split at hc
            · rename_i hf
              cases hc
              simp only [Bool.and_eq_true] at hf
              obtain ⟨⟨f1, f2⟩, f3⟩ := hf
              unfold ckE at f3
              split at f3
              case h_2 => cases f3
              case h_1 t ht =>
                refine hc0.2.2 K X false sd pc p1 ts fs h1 _ env st h bd hw hq (fun h' b' hv => ?_) (fun h' b' hv => ?_)
                · have hj : Jf K p1 env st h' b' := Jf.of (ha.1 _ _ _ _ h2) (ha.2.2 K X sd p1 p2 h2 _ env st h' b' hw (hv.1 rfl) (fun x h'' b'' hx => by
                    have hg : Jf K t env (va x :: st) h'' b'' := (kk x h'' b'' hx).to f3
                    have e1 : fl1 (cby K.2.2.1) p2 = t := by
                      unfold fl1
                      rw [hd]
                      have := jtgt_ok ht
                      show (if 0 ≤ (p2 : Int) + off then ((p2 : Int) + off).toNat else p2) = t
                      rw [if_pos (by omega)]
                      omega
                    unfold Jf at hg ⊢
                    unfold fl at hg ⊢
                    rw [e1]
                    exact J_fl1 X hg))
                  exact ⟨flA_to f1 hj, fun _ => hj⟩
                · have hj : Jf K (p2 + 3) env st h' b' := Jf.of (hb.1 _ _ _ _ h3) (hb.2.2 K X sd (p2 + 3) _ h3 _ env st h' b' hw (hv.2 rfl) kk)
                  exact ⟨flA_to f2 hj, fun e => by cases e⟩
            · cases hc
          · cases hc
        · cases hc
      · cases hc
    · cases hc
