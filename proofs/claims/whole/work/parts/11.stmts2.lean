/-! STATEMENTS -/
def stI (S : SC) (pc i w : Nat) (f : Nat → Instr) (f4 : Fin 4 → Instr) : Option (Nat × Bool × List Nat) := if i + w ≤ cnl S then (match isL S pc i f f4 with | some p => some (p, true, []) | none => none) else none
def s_ist (i : Nat) (e : XI) : ST := (fun S pc => match e.1 S 0 pc with | some p1 => stI S p1 i 1 .istore .istore_n | none => none, fun g Q _ env h b => e.2 g (fun x h b => Q (est1 env i (.int x)) h b) env h b)
def s_lst (i : Nat) (e : XL) : ST := (fun S pc => match e.1 S 0 pc with | some p1 => stI S p1 i 2 .lstore .lstore_n | none => none, fun g Q _ env h b => e.2 g (fun x h b => Q (est2 env i (.long x)) h b) env h b)
def s_ast (i : Nat) (e : XR) : ST := (fun S pc => match e.1 S 0 pc with | some p1 => stI S p1 i 1 .astore .astore_n | none => none, fun g Q _ env h b => e.2 g (fun x h b => Q (est1 env i (va_rf x)) h b) env h b)
theorem stI_out {S : SC} {pc i w p : Nat} {al : Bool} {xs : List Nat} {f : Nat → Instr} {f4 : Fin 4 → Instr} (h : stI S pc i w f f4 = some (p, al, xs)) : i + w ≤ cnl S ∧ isL S pc i f f4 = some p ∧ al = true ∧ xs = [] := by
  unfold stI at h
  split at h
  · rename_i h1
    split at h
    · rename_i h2; cases h; exact ⟨h1, h2, rfl, rfl⟩
    · cases h
  · cases h
theorem OK_stG {α : Type} {va : α → Value} {i w : Nat} {e : E α} {f : Nat → Instr} {f4 : Fin 4 → Instr} {es : LE → α → LE} {s : ST}
    (h1 : ∀ S pc, s.1 S pc = match e.1 S 0 pc with | some p1 => stI S p1 i w f f4 | none => none) (h2 : ∀ g Q R env h b, s.2 g Q R env h b = e.2 g (fun x h b => Q (es env x) h b) env h b) (hf : ∀ i off, f i ≠ .goto off) (hf4 : ∀ i off, f4 i ≠ .goto off)
    (row : ∀ (K : KT) (pc p : Nat) (env : LE) (h : FH) (b : Bd) (x : α), JOK K → i + w ≤ cnl K.2.2.1 → isL K.2.2.1 pc i f f4 = some p → J K p (es env x) [] h b → J K pc env [va x] h b) (he : OKE va e) : OKS s := by
  refine ⟨fun S pc q h => ?_, fun g Q Q' R R' env h b hm _ hq => ?_, fun K X _ pc p' al xs hc Q env h b hq k => ?_⟩
  · rw [h1] at h
    split at h
    · rename_i p1 hp; exact he.1 S 0 pc p1 hp
    · cases h
  · rw [h2] at hq ⊢
    exact he.2.1 g _ _ env h b (fun v h' b' hv => hm _ _ _ hv) hq
  · rw [h1] at hc
    rw [h2] at hq
    split at hc
    · rename_i p1 hp
      obtain ⟨d1, d2, rfl, rfl⟩ := stI_out hc
      exact he.2.2 K X 0 pc p1 hp _ env [] h b (Nat.le_refl _) hq (fun x h' b' hx => Jf.of (isL_fl d2 hf hf4) (row K p1 p' env h' b' x X d1 d2 (((k _ h' b' hx).1 rfl).j X)))
    · cases hc
theorem OK_ist {i : Nat} {e : XI} (he : OKI e) : OKS (s_ist i e) := OK_stG (es := fun env x => est1 env i (.int x)) (fun _ _ => rfl) (fun _ _ _ _ _ _ => rfl) (by simp) (by simp) (fun K pc p env h b x X d1 d2 k => by
  unfold isL at d2
  split at d2
  · split at d2
    · rename_i hi; cases d2; exact J_istore_n (i := ⟨i, _⟩) d1 X (isI_d hi) k
    · cases d2
  · split at d2
    · rename_i hi; cases d2; exact J_istore d1 X (isI_d hi) k
    · cases d2) he
theorem OK_lst {i : Nat} {e : XL} (he : OKL e) : OKS (s_lst i e) := OK_stG (es := fun env x => est2 env i (.long x)) (fun _ _ => rfl) (fun _ _ _ _ _ _ => rfl) (by simp) (by simp) (fun K pc p env h b x X d1 d2 k => by
  unfold isL at d2
  split at d2
  · split at d2
    · rename_i hi; cases d2; exact J_lstore_n (i := ⟨i, _⟩) (show i + 1 < _ by omega) X (isI_d hi) k
    · cases d2
  · split at d2
    · rename_i hi; cases d2; exact J_lstore (by omega) X (isI_d hi) k
    · cases d2) he
theorem OK_ast {i : Nat} {e : XR} (he : OKR e) : OKS (s_ast i e) := OK_stG (es := fun env x => est1 env i (va_rf x)) (fun _ _ => rfl) (fun _ _ _ _ _ _ => rfl) (by simp) (by simp) (fun K pc p env h b x X d1 d2 k => by
  unfold isL at d2
  split at d2
  · split at d2
    · rename_i hi; cases d2; exact J_astore_n (i := ⟨i, _⟩) d1 X (isI_d hi) k
    · cases d2
  · split at d2
    · rename_i hi; cases d2; exact J_astore d1 X (isI_d hi) k
    · cases d2) he
def s_inc (i : Nat) (n : Int) : ST := (fun S pc => if isI S pc (.iinc i n) 3 = true ∧ i < cnl S then some (pc + 3, true, []) else none, fun _ Q _ env h b => match elg env i with | some (.int x) => Q (est1 env i (.int (x + Int32.ofInt n))) h b | _ => False)
theorem OK_inc {i : Nat} {n : Int} : OKS (s_inc i n) := by
  refine ⟨fun S pc q h => ?_, fun g Q Q' R R' env h b hm _ hq => ?_, fun K X _ pc p' al xs hc Q env h b hq k => ?_⟩
  · unfold s_inc at h
    dsimp only at h
    split at h
    · rename_i hd; exact fl1_of (isI_d hd.1) (by simp)
    · cases h
  · unfold s_inc at hq ⊢
    dsimp only at hq ⊢
    split at hq
    · exact hm _ _ _ hq
    · exact hq.elim
  · unfold s_inc at hc hq
    dsimp only at hc hq
    split at hq
    · rename_i x he
      split at hc
      · rename_i hd
        cases hc
        exact J_iinc X hd.2 he (isI_d hd.1) (((k _ h b hq).1 rfl).j X)
      · cases hc
    · exact hq.elim
/-- fields: x.f = e -/
def s_put {α : Type} (va : α → Value) (tb : FieldType → Bool) (pre : α → Prop) (ci k : Nat) (r : XR) (e : E α) : ST := (fun S pc => match r.1 S 0 pc with
    | some p1 => match e.1 S 1 p1 with
      | some p2 => (match decode (cby S) p2 with | .ok (.putfield idx, 3) => if lkF (cow S) idx = some (ci, k) ∧ (ffin ci k = false ∨ (cin S = true ∧ cow S = ci)) ∧ tb (cty ci k) = true then some (p2 + 3, true, []) else none | _ => none)
      | none => none
    | none => none, fun g Q _ env h b => r.2 g (fun r h b => ∃ a : Nat, r = some a ∧ e.2 g (fun x h b => ∃ fs : List Value, h.2 a = some (.inr (ci, fs)) ∧ k < fs.length ∧ pre x ∧ Q env (hset h a (.inr (ci, fs.set k (va x)))) b) env h b) env h b)
theorem OK_put {α : Type} {va : α → Value} {tb : FieldType → Bool} {pre : α → Prop} {ci k : Nat} {r : XR} {e : E α} (ht : ∀ ty x, tb ty = true → pre x → narrow ty (va x) = va x ∧ fits ty (va x) = true) (hr : OKR r) (he : OKE va e) : OKS (s_put va tb pre ci k r e) := by
  refine ⟨fun S pc q h => ?_, fun g Q Q' R R' env h b hm _ hq => hr.2.1 g _ _ env h b (fun v h' b' hv => ?_) hq, fun K X _ pc p' al xs hc Q env h b hq kk => ?_⟩
  · unfold s_put at h
    dsimp only at h
    split at h
    · rename_i p1 h1; exact hr.1 S 0 pc p1 h1
    · cases h
  · obtain ⟨a, h1, h2⟩ := hv
    refine ⟨a, h1, he.2.1 g _ _ env h' b' (fun x h3 b3 hx => ?_) h2⟩
    obtain ⟨fs, e1, e2, e3, e4⟩ := hx
    exact ⟨fs, e1, e2, e3, hm _ _ _ e4⟩
  · unfold s_put at hc hq
    dsimp only at hc hq
    split at hc
    · rename_i p1 h1
      split at hc
      · rename_i p2 h2
        split at hc
        · rename_i idx hd
          split at hc
          · rename_i hl
            cases hc
            refine hr.2.2 K X 0 pc p1 h1 _ env [] h b (Nat.le_refl _) hq (fun v h' b' hv => Jf.of (he.1 _ _ _ _ h2) ?_)
            obtain ⟨a, rfl, h3⟩ := hv
            refine he.2.2 K X 1 p1 p2 h2 _ env [.ref a] h' b' (Nat.le_refl _) h3 (fun x h4 b4 hx => Jf.of (fl1_of hd (by simp)) ?_)
            obtain ⟨fs, e1, e2, e3, e4⟩ := hx
            obtain ⟨n1, n2⟩ := ht _ x hl.2.2 e3
            exact J_putf X hd hl.1 hl.2.1 e1 e2 n1 n2 (((kk _ _ _ e4).1 rfl).j X)
          · cases hc
        · cases hc
      · cases hc
    · cases hc
def tyI (t : FieldType) : Bool := match t with | .int => true | _ => false
def tyZ (t : FieldType) : Bool := match t with | .boolean => true | _ => false
def tyL (t : FieldType) : Bool := match t with | .long => true | _ => false
def tyR (t : FieldType) : Bool := match t with | .object _ => true | .array _ => true | _ => false
def s_putI (ci k : Nat) (r : XR) (e : XI) : ST := s_put Value.int tyI (fun _ => True) ci k r e
def s_putZ (ci k : Nat) (r : XR) (e : XI) : ST := s_put Value.int tyZ (fun x => x = 0 ∨ x = 1) ci k r e
def s_putL (ci k : Nat) (r : XR) (e : XL) : ST := s_put Value.long tyL (fun _ => True) ci k r e
def s_putR (ci k : Nat) (r : XR) (e : XR) : ST := s_put va_rf tyR (fun _ => True) ci k r e
theorem OK_putI {ci k : Nat} {r : XR} {e : XI} (hr : OKR r) (he : OKI e) : OKS (s_putI ci k r e) := OK_put (fun ty x h _ => by
  cases ty <;> first | exact ⟨rfl, rfl⟩ | cases h) hr he
theorem OK_putZ {ci k : Nat} {r : XR} {e : XI} (hr : OKR r) (he : OKI e) : OKS (s_putZ ci k r e) := OK_put (fun ty x h hx => by
  cases ty <;> first | (rcases hx with rfl | rfl <;> exact ⟨rfl, rfl⟩) | cases h) hr he
theorem OK_putL {ci k : Nat} {r : XR} {e : XL} (hr : OKR r) (he : OKL e) : OKS (s_putL ci k r e) := OK_put (fun ty x h _ => by
  cases ty <;> first | exact ⟨rfl, rfl⟩ | cases h) hr he
theorem OK_putR {ci k : Nat} {r : XR} {e : XR} (hr : OKR r) (he : OKR e) : OKS (s_putR ci k r e) := OK_put (fun ty x h _ => by
  cases ty <;> first | (cases x <;> exact ⟨rfl, rfl⟩) | cases h) hr he
/-- x.f op= e, of int fields -/
def s_opf (ci k : Nat) (ins : Instr) (op : Int32 → Int32 → Int32) (r : XR) (e : XI) : ST := (fun S pc => match r.1 S 0 pc with
    | some p1 => if isI S p1 .dup 1 = true then (match decode (cby S) (p1 + 1) with
      | .ok (.getfield idx, 3) => if lkF (cow S) idx = some (ci, k) then (match e.1 S 2 (p1 + 4) with
        | some p2 => if isI S p2 ins 1 = true then (match decode (cby S) (p2 + 1) with | .ok (.putfield idx2, 3) => if lkF (cow S) idx2 = some (ci, k) ∧ ffin ci k = false ∧ tyI (cty ci k) = true then some (p2 + 4, true, []) else none | _ => none) else none
        | none => none) else none
      | _ => none) else none
    | none => none, fun g Q _ env h b => r.2 g (fun r h b => ∃ (a : Nat) (fs : List Value) (x : Int32), r = some a ∧ h.2 a = some (.inr (ci, fs)) ∧ fs[k]? = some (.int x) ∧ e.2 g (fun y h b => ∃ fs : List Value, h.2 a = some (.inr (ci, fs)) ∧ k < fs.length ∧ Q env (hset h a (.inr (ci, fs.set k (.int (op x y))))) b) env h b) env h b)
theorem OK_opf {ci k : Nat} {ins : Instr} {op : Int32 → Int32 → Int32} {r : XR} {e : XI} (hg : ∀ off, ins ≠ .goto off) (row : ∀ (K : KT) (pc : Nat) (env : LE) (st : List Value) (h : FH) (bd : Bd) (x y : Int32), JOK K → decode (cby K.2.2.1) pc = .ok (ins, 1) → J K (pc + 1) env (.int (op x y) :: st) h bd → J K pc env (.int y :: .int x :: st) h bd) (hr : OKR r) (he : OKI e) : OKS (s_opf ci k ins op r e) := by
  refine ⟨fun S pc q h => ?_, fun g Q Q' R R' env h b hm _ hq => hr.2.1 g _ _ env h b (fun v h' b' hv => ?_) hq, fun K X _ pc p' al xs hc Q env h b hq kk => ?_⟩
  · unfold s_opf at h
    dsimp only at h
    split at h
    · rename_i p1 h1; exact hr.1 S 0 pc p1 h1
    · cases h
  · obtain ⟨a, fs, x, h1, h2, h3, h4⟩ := hv
    refine ⟨a, fs, x, h1, h2, h3, he.2.1 g _ _ env h' b' (fun x h3 b3 hx => ?_) h4⟩
    obtain ⟨fs, e1, e2, e4⟩ := hx
    exact ⟨fs, e1, e2, hm _ _ _ e4⟩
  · unfold s_opf at hc hq
    dsimp only at hc hq
    split at hc
    · rename_i p1 h1
      split at hc
      · rename_i d1
        split at hc
        · rename_i idx hd
          split at hc
          · rename_i hl
            split at hc
            · rename_i p2 h2
              split at hc
              · rename_i d2
                split at hc
                · rename_i idx2 hd2
                  split at hc
                  · rename_i hl2
                    cases hc
                    refine hr.2.2 K X 0 pc p1 h1 _ env [] h b (Nat.le_refl _) hq (fun v h' b' hv => Jf.of (fl1_of (isI_d d1) (by simp)) ?_)
                    obtain ⟨a, fs, x, rfl, f2, f3, f4⟩ := hv
                    refine J_dup (v := .ref a) rfl X (isI_d d1) (J_getf X hd hl f2 f3 ?_)
                    refine he.2.2 K X 2 (p1 + 4) p2 h2 _ env (.int x :: [.ref a]) h' b' (Nat.le_refl _) f4 (fun y h4 b4 hy => Jf.of (fl1_of (isI_d d2) hg) ?_)
                    obtain ⟨fs2, e1, e2, e4⟩ := hy
                    refine row K p2 env [.ref a] h4 b4 x y X (isI_d d2) ?_
                    have ht : narrow (cty ci k) (.int (op x y)) = .int (op x y) ∧ fits (cty ci k) (.int (op x y)) = true := by
                      have := hl2.2.2
                      cases hty : cty ci k <;> rw [hty] at this <;> first | exact ⟨rfl, rfl⟩ | cases this
                    exact J_putf X hd2 hl2.1 (Or.inl hl2.2.1) e1 e2 ht.1 ht.2 (((kk _ _ _ e4).1 rfl).j X)
                  · cases hc
                · cases hc
              · cases hc
            · cases hc
          · cases hc
        · cases hc
      · cases hc
    · cases hc
/-- a[i] = e -/
def s_sta {α : Type} (ins : Instr) (w : Nat) (mk : Nat → (Nat → α) → FC) (up : (Nat → α) → Nat → α → (Nat → α)) (pre : α → Prop) (r : XR) (i : XI) (e : E α) : ST := (fun S pc => match r.1 S 0 pc with
    | some p1 => match i.1 S 1 p1 with
      | some p2 => match e.1 S 2 p2 with
        | some p3 => if isI S p3 ins 1 = true then some (p3 + 1, true, []) else none
        | none => none
      | none => none
    | none => none, fun g Q _ env h b => r.2 g (fun r h b => ∃ a : Nat, r = some a ∧ i.2 g (fun z h b => e.2 g (fun x h b => ∃ (n : Nat) (f : Nat → α) (j : Nat), h.2 a = some (mk n f) ∧ z = nI j ∧ j < n ∧ j < 2147483648 ∧ pre x ∧ Q env (hset h a (mk n (up f j x))) b) env h b) env h b) env h b)
theorem OK_sta {α : Type} {va : α → Value} {ins : Instr} {w : Nat} {mk : Nat → (Nat → α) → FC} {up : (Nat → α) → Nat → α → (Nat → α)} {pre : α → Prop} {r : XR} {i : XI} {e : E α} (hg : ∀ off, ins ≠ .goto off)
    (row : ∀ (K : KT) (pc : Nat) (env : LE) (st : List Value) (h : FH) (b : Bd) (a n j : Nat) (f : Nat → α) (x : α), JOK K → decode (cby K.2.2.1) pc = .ok (ins, 1) → h.2 a = some (mk n f) → j < n → j < 2147483648 → pre x → J K (pc + 1) env st (hset h a (mk n (up f j x))) b → J K pc env (va x :: .int (nI j) :: .ref a :: st) h b)
    (hr : OKR r) (hi : OKI i) (he : OKE va e) : OKS (s_sta ins w mk up pre r i e) := by
  refine ⟨fun S pc q h => ?_, fun g Q Q' R R' env h b hm _ hq => hr.2.1 g _ _ env h b (fun v h' b' hv => ?_) hq, fun K X _ pc p' al xs hc Q env h b hq kk => ?_⟩
  · unfold s_sta at h
    dsimp only at h
    split at h
    · rename_i p1 h1; exact hr.1 S 0 pc p1 h1
    · cases h
  · obtain ⟨a, h1, h2⟩ := hv
    refine ⟨a, h1, hi.2.1 g _ _ env h' b' (fun z h3 b3 hz => he.2.1 g _ _ env h3 b3 (fun x h4 b4 hx => ?_) hz) h2⟩
    obtain ⟨n, f, j, q1, q2, q3, q4, q5, q6⟩ := hx
    exact ⟨n, f, j, q1, q2, q3, q4, q5, hm _ _ _ q6⟩
  · unfold s_sta at hc hq
    dsimp only at hc hq
    split at hc
    · rename_i p1 h1
      split at hc
      · rename_i p2 h2
        split at hc
        · rename_i p3 h3
          split at hc
          · rename_i hd
            cases hc
            refine hr.2.2 K X 0 pc p1 h1 _ env [] h b (Nat.le_refl _) hq (fun v h' b' hv => Jf.of (hi.1 _ _ _ _ h2) ?_)
            obtain ⟨a, rfl, f1⟩ := hv
            refine hi.2.2 K X 1 p1 p2 h2 _ env [.ref a] h' b' (Nat.le_refl _) f1 (fun z h4 b4 hz => Jf.of (he.1 _ _ _ _ h3) ?_)
            refine he.2.2 K X 2 p2 p3 h3 _ env [.int z, .ref a] h4 b4 (Nat.le_refl _) hz (fun x h5 b5 hx => Jf.of (fl1_of (isI_d hd) hg) ?_)
            obtain ⟨n, f, j, q1, rfl, q3, q4, q5, q6⟩ := hx
            exact row K p3 env [] h5 b5 a n j f x X (isI_d hd) q1 q3 q4 q5 (((kk _ _ _ q6).1 rfl).j X)
          · cases hc
        · cases hc
      · cases hc
    · cases hc
def s_iast (r : XR) (i : XI) (e : XI) : ST := s_sta .iastore 1 aI upd (fun _ => True) r i e
def s_zast (r : XR) (i : XI) (e : XI) : ST := s_sta .bastore 1 aZ upd (fun x => x = 0 ∨ x = 1) r i e
def s_last (r : XR) (i : XI) (e : XL) : ST := s_sta .lastore 2 aL vp_updL (fun _ => True) r i e
theorem OK_siast {r : XR} {i e : XI} (hr : OKR r) (hi : OKI i) (he : OKI e) : OKS (s_iast r i e) := OK_sta (by simp) (fun K pc env st h b a n j f x X hd h1 h2 h3 _ k => J_iast X hd h1 h2 h3 k) hr hi he
theorem OK_szast {r : XR} {i e : XI} (hr : OKR r) (hi : OKI i) (he : OKI e) : OKS (s_zast r i e) := OK_sta (by simp) (fun K pc env st h b a n j f x X hd h1 h2 h3 hx k => J_zast X hd h1 h2 h3 hx k) hr hi he
theorem OK_slast {r : XR} {i : XI} {e : XL} (hr : OKR r) (hi : OKI i) (he : OKL e) : OKS (s_last r i e) := OK_sta (by simp) (fun K pc env st h b a n j f x X hd h1 h2 h3 _ k => J_last X hd h1 h2 h3 k) hr hi he
/-- a[object array][i] = e -/
def s_aast (ci : Nat) (r : XR) (i : XI) (e : XR) : ST := (fun S pc => if ci < 11 then (match r.1 S 0 pc with
    | some p1 => match i.1 S 1 p1 with
      | some p2 => match e.1 S 2 p2 with
        | some p3 => if isI S p3 .aastore 1 = true then some (p3 + 1, true, []) else none
        | none => none
      | none => none
    | none => none) else none, fun g Q _ env h b => r.2 g (fun r h b => ∃ a : Nat, r = some a ∧ i.2 g (fun z h b => e.2 g (fun x h b => ∃ (n : Nat) (f : Nat → Option Nat) (j v : Nat) (fs : List Value), x = some v ∧ h.2 v = some (.inr (ci, fs)) ∧ h.2 a = some (aR (.object (cnm ci)) n f) ∧ z = nI j ∧ j < n ∧ j < 2147483648 ∧ Q env (hset h a (aR (.object (cnm ci)) n (va_up f j (some v)))) b) env h b) env h b) env h b)
theorem OK_saast {ci : Nat} {r e : XR} {i : XI} (hr : OKR r) (hi : OKI i) (he : OKR e) : OKS (s_aast ci r i e) := by
  refine ⟨fun S pc q h => ?_, fun g Q Q' R R' env h b hm _ hq => hr.2.1 g _ _ env h b (fun v h' b' hv => ?_) hq, fun K X _ pc p' al xs hc Q env h b hq kk => ?_⟩
  · unfold s_aast at h
    dsimp only at h
    split at h
    · split at h
      · rename_i p1 h1; exact hr.1 S 0 pc p1 h1
      · cases h
    · cases h
  · obtain ⟨a, h1, h2⟩ := hv
    refine ⟨a, h1, hi.2.1 g _ _ env h' b' (fun z h3 b3 hz => he.2.1 g _ _ env h3 b3 (fun x h4 b4 hx => ?_) hz) h2⟩
    obtain ⟨n, f, j, v, fs, q1, q2, q3, q4, q5, q6, q7⟩ := hx
    exact ⟨n, f, j, v, fs, q1, q2, q3, q4, q5, q6, hm _ _ _ q7⟩
  · unfold s_aast at hc hq
    dsimp only at hc hq
    split at hc
    · rename_i hci
      split at hc
      · rename_i p1 h1
        split at hc
        · rename_i p2 h2
          split at hc
          · rename_i p3 h3
            split at hc
            · rename_i hd
              cases hc
              refine hr.2.2 K X 0 pc p1 h1 _ env [] h b (Nat.le_refl _) hq (fun v h' b' hv => Jf.of (hi.1 _ _ _ _ h2) ?_)
              obtain ⟨a, rfl, f1⟩ := hv
              refine hi.2.2 K X 1 p1 p2 h2 _ env [.ref a] h' b' (Nat.le_refl _) f1 (fun z h4 b4 hz => Jf.of (he.1 _ _ _ _ h3) ?_)
              refine he.2.2 K X 2 p2 p3 h3 _ env [.int z, .ref a] h4 b4 (Nat.le_refl _) hz (fun x h5 b5 hx => Jf.of (fl1_of (isI_d hd) (by simp)) ?_)
              obtain ⟨n, f, j, v, fs, rfl, q2, q3, rfl, q5, q6, q7⟩ := hx
              obtain ⟨rc, hrc⟩ := cl_some hci
              have en : rc.1 = cnm ci := (cls_ok hrc).1
              rw [← en] at q3 q7
              exact J_aast X (isI_d hd) hrc q3 q2 q5 q6 (((kk _ _ _ q7).1 rfl).j X)
            · cases hc
          · cases hc
        · cases hc
      · cases hc
    · cases hc
/-- a[i] op= e -/
def s_opa {α : Type} (il ia : Instr) (ins : Instr) (w : Nat) (mk : Nat → (Nat → α) → FC) (up : (Nat → α) → Nat → α → (Nat → α)) (op : α → α → α) (r : XR) (i : XI) (e : E α) : ST := (fun S pc => match r.1 S 0 pc with
    | some p1 => match i.1 S 1 p1 with
      | some p2 => if isI S p2 .dup2 1 = true ∧ isI S (p2 + 1) il 1 = true then (match e.1 S (2 + w) (p2 + 2) with
        | some p3 => if isI S p3 ins 1 = true ∧ isI S (p3 + 1) ia 1 = true then some (p3 + 2, true, []) else none
        | none => none) else none
      | none => none
    | none => none, fun g Q _ env h b => r.2 g (fun r h b => ∃ a : Nat, r = some a ∧ i.2 g (fun z h b => ∃ (n : Nat) (f : Nat → α) (j : Nat), h.2 a = some (mk n f) ∧ z = nI j ∧ j < n ∧ j < 2147483648 ∧ e.2 g (fun x h b => ∃ f' : Nat → α, h.2 a = some (mk n f') ∧ Q env (hset h a (mk n (up f' j (op (f j) x)))) b) env h b) env h b) env h b)
theorem OK_opa {α : Type} {va : α → Value} {il ia ins : Instr} {w : Nat} {mk : Nat → (Nat → α) → FC} {up : (Nat → α) → Nat → α → (Nat → α)} {op : α → α → α} {r : XR} {i : XI} {e : E α} (hw : ∀ x, (va x).category ≤ w) (hg : ∀ off, ins ≠ .goto off)
    (rl : ∀ (K : KT) (pc : Nat) (env : LE) (st : List Value) (h : FH) (b : Bd) (a n j : Nat) (f : Nat → α), JOK K → decode (cby K.2.2.1) pc = .ok (il, 1) → h.2 a = some (mk n f) → j < n → j < 2147483648 → J K (pc + 1) env (va (f j) :: st) h b → J K pc env (.int (nI j) :: .ref a :: st) h b)
    (ro : ∀ (K : KT) (pc : Nat) (env : LE) (st : List Value) (h : FH) (bd : Bd) (x y : α), JOK K → decode (cby K.2.2.1) pc = .ok (ins, 1) → J K (pc + 1) env (va (op x y) :: st) h bd → J K pc env (va y :: va x :: st) h bd)
    (row : ∀ (K : KT) (pc : Nat) (env : LE) (st : List Value) (h : FH) (b : Bd) (a n j : Nat) (f : Nat → α) (x : α), JOK K → decode (cby K.2.2.1) pc = .ok (ia, 1) → h.2 a = some (mk n f) → j < n → j < 2147483648 → J K (pc + 1) env st (hset h a (mk n (up f j x))) b → J K pc env (va x :: .int (nI j) :: .ref a :: st) h b)
    (hr : OKR r) (hi : OKI i) (he : OKE va e) : OKS (s_opa il ia ins w mk up op r i e) := by
  refine ⟨fun S pc q h => ?_, fun g Q Q' R R' env h b hm _ hq => hr.2.1 g _ _ env h b (fun v h' b' hv => ?_) hq, fun K X _ pc p' al xs hc Q env h b hq kk => ?_⟩
  · unfold s_opa at h
    dsimp only at h
    split at h
    · rename_i p1 h1; exact hr.1 S 0 pc p1 h1
    · cases h
  · obtain ⟨a, h1, h2⟩ := hv
    refine ⟨a, h1, hi.2.1 g _ _ env h' b' (fun z h3 b3 hz => ?_) h2⟩
    obtain ⟨n, f, j, q1, q2, q3, q4, q5⟩ := hz
    refine ⟨n, f, j, q1, q2, q3, q4, he.2.1 g _ _ env h3 b3 (fun x h4 b4 hx => ?_) q5⟩
    obtain ⟨f', w1, w2⟩ := hx
    exact ⟨f', w1, hm _ _ _ w2⟩
  · unfold s_opa at hc hq
    dsimp only at hc hq
    split at hc
    · rename_i p1 h1
      split at hc
      · rename_i p2 h2
        split at hc
        · rename_i hd
          split at hc
          · rename_i p3 h3
            split at hc
            · rename_i hd2
              cases hc
              refine hr.2.2 K X 0 pc p1 h1 _ env [] h b (Nat.le_refl _) hq (fun v h' b' hv => Jf.of (hi.1 _ _ _ _ h2) ?_)
              obtain ⟨a, rfl, f1⟩ := hv
              refine hi.2.2 K X 1 p1 p2 h2 _ env [.ref a] h' b' (Nat.le_refl _) f1 (fun z h4 b4 hz => Jf.of (fl1_of (isI_d hd.1) (by simp)) ?_)
              obtain ⟨n, f, j, q1, rfl, q3, q4, q5⟩ := hz
              refine J_dup2 (v := .int (nI j)) (w := .ref a) rfl rfl X (isI_d hd.1) (rl K _ env _ h4 b4 a n j f X (isI_d hd.2) q1 q3 q4 ?_)
              refine he.2.2 K X (2 + w) (p2 + 2) p3 h3 _ env [va (f j), .int (nI j), .ref a] h4 b4 (by have := hw (f j); rw [sw_cons]; show _ + 2 ≤ _; omega) q5 (fun x h5 b5 hx => Jf.of (fl1_of (isI_d hd2.1) hg) ?_)
              obtain ⟨f', w1, w2⟩ := hx
              refine ro K p3 env _ h5 b5 _ x X (isI_d hd2.1) ?_
              exact row K (p3 + 1) env [] h5 b5 a n j f' _ X (isI_d hd2.2) w1 q3 q4 (((kk _ _ _ w2).1 rfl).j X)
            · cases hc
          · cases hc
        · cases hc
      · cases hc
    · cases hc
def s_opaI (ins : Instr) (op : Int32 → Int32 → Int32) (r : XR) (i : XI) (e : XI) : ST := s_opa .iaload .iastore ins 1 aI upd op r i e
def s_opaL (ins : Instr) (op : Int64 → Int64 → Int64) (r : XR) (i : XI) (e : XL) : ST := s_opa .laload .lastore ins 2 aL vp_updL op r i e
theorem OK_opaI {ins : Instr} {op : Int32 → Int32 → Int32} {r : XR} {i e : XI} (hg : ∀ off, ins ≠ .goto off) (ro : ∀ (K : KT) (pc : Nat) (env : LE) (st : List Value) (h : FH) (bd : Bd) (x y : Int32), JOK K → decode (cby K.2.2.1) pc = .ok (ins, 1) → J K (pc + 1) env (.int (op x y) :: st) h bd → J K pc env (.int y :: .int x :: st) h bd) (hr : OKR r) (hi : OKI i) (he : OKI e) : OKS (s_opaI ins op r i e) :=
  OK_opa (fun _ => Nat.le_refl _) hg (fun K pc env st h b a n j f X hd h1 h2 h3 k => J_iald X hd h1 h2 h3 k) ro (fun K pc env st h b a n j f x X hd h1 h2 h3 k => J_iast X hd h1 h2 h3 k) hr hi he
theorem OK_opaL {ins : Instr} {op : Int64 → Int64 → Int64} {r : XR} {i : XI} {e : XL} (hg : ∀ off, ins ≠ .goto off) (ro : ∀ (K : KT) (pc : Nat) (env : LE) (st : List Value) (h : FH) (bd : Bd) (x y : Int64), JOK K → decode (cby K.2.2.1) pc = .ok (ins, 1) → J K (pc + 1) env (.long (op x y) :: st) h bd → J K pc env (.long y :: .long x :: st) h bd) (hr : OKR r) (hi : OKI i) (he : OKL e) : OKS (s_opaL ins op r i e) :=
  OK_opa (fun _ => Nat.le_refl _) hg (fun K pc env st h b a n j f X hd h1 h2 h3 k => J_lald X hd h1 h2 h3 k) ro (fun K pc env st h b a n j f x X hd h1 h2 h3 k => J_last X hd h1 h2 h3 k) hr hi he
/-! the shapes of statements -/
def s_seq (a b : ST) : ST := (fun S pc => match a.1 S pc with
    | some (p1, al, xs) => if flA (cby S) xs p1 then b.1 S p1 else none
    | none => none, fun g Q R env h bd => a.2 g (fun e h b' => b.2 g Q R e h b') R env h bd)
theorem OK_seq {a b : ST} (ha : OKS a) (hb : OKS b) : OKS (s_seq a b) := by
  refine ⟨fun S pc q h => ?_, fun g Q Q' R R' env h bd hm hr hq => ha.2.1 g _ _ R R' env h bd (fun e h' b' hv => hb.2.1 g _ _ R R' e h' b' hm hr hv) hr hq, fun K X T pc p' al xs hc Q env h bd hq kk => ?_⟩
  · unfold s_seq at h
    dsimp only at h
    split at h
    · rename_i p1 al xs h1; exact ha.1 S pc _ h1
    · cases h
  · unfold s_seq at hc hq
    dsimp only at hc hq
    split at hc
    · rename_i p1 al1 xs1 h1
      split at hc
      · rename_i hf
        refine ha.2.2 K X T pc p1 al1 xs1 h1 _ env h bd hq (fun e h' b' hv => ?_)
        have hj : Jf K p1 e [] h' b' := Jf.of (hb.1 _ _ _ hc) (hb.2.2 K X T p1 p' al xs hc _ e h' b' hv kk)
        exact ⟨fun _ => hj, flA_to hf hj⟩
      · cases hc
    · cases hc
def s_if (c : XC) (a : ST) : ST := (fun S pc => match c.1 S false 0 pc with
    | some (p1, ts, fs) => if flA (cby S) ts p1 then (a.1 S p1).map (fun q => (q.1, q.2.1, fs ++ q.2.2)) else none
    | none => none, fun g Q R env h bd => c.2 g (fun v h b => cnd v (a.2 g Q R env h b) (Q env h b)) env h bd)
theorem OK_sif {c : XC} {a : ST} (hc0 : OKC c) (ha : OKS a) : OKS (s_if c a) := by
  refine ⟨fun S pc q h => ?_, fun g Q Q' R R' env h bd hm hr hq => hc0.2.1 g _ _ env h bd (fun v h' b' hv => cnd_mono (ha.2.1 g _ _ R R' env h' b' hm hr) (hm _ _ _) hv) hq, fun K X T pc p' al xs hc Q env h bd hq kk => ?_⟩
  · unfold s_if at h
    dsimp only at h
    split at h
    · rename_i p1 ts fs h1; exact hc0.1 S _ 0 pc _ h1
    · cases h
  · unfold s_if at hc hq
    dsimp only at hc hq
    split at hc
    · rename_i p1 ts fs h1
      split at hc
      · rename_i hf
        simp only [Option.map_eq_some_iff] at hc
        obtain ⟨⟨p2, al2, xs2⟩, h2, h3⟩ := hc
        simp only [Prod.mk.injEq] at h3
        obtain ⟨rfl, rfl, rfl⟩ := h3
        refine hc0.2.2 K X false 0 pc p1 ts fs h1 _ env [] h bd (Nat.le_refl _) hq (fun h' b' hv => ?_) (fun h' b' hv => ?_)
        · have hj : Jf K p1 env [] h' b' := Jf.of (ha.1 _ _ _ h2) (ha.2.2 K X T p1 _ _ _ h2 _ env h' b' (hv.1 rfl) (fun e h'' b'' hq => ⟨(kk e h'' b'' hq).1, fun t ht => (kk e h'' b'' hq).2 t (List.mem_append_right _ ht)⟩))
          exact ⟨flA_to hf hj, fun _ => hj⟩
        · exact ⟨fun t ht => (kk env h' b' (hv.2 rfl)).2 t (List.mem_append_left _ ht), fun e => by cases e⟩
      · cases hc
    · cases hc
/-- the goto behind the first branch, if it is left alive -/
def ckG (S : SC) (p : Nat) (al : Bool) : Option (Nat × List Nat) := if al then (match decode (cby S) p with | .ok (.goto off, 3) => (jtgt p off).map (fun t => (p + 3, [t])) | _ => none) else some (p, [])
theorem ckG_to {K : KT} {p p2 : Nat} {al : Bool} {xs : List Nat} {env : LE} {st : List Value} {h : FH} {b : Bd} (X : JOK K) (hc : ckG K.2.2.1 p al = some (p2, xs)) (k : ∀ t ∈ xs, Jf K t env st h b) (ha : al = true) : Jf K p env st h b := by
  subst ha
  unfold ckG at hc
  rw [if_pos rfl] at hc
  split at hc
  · rename_i off hd
    simp only [Option.map_eq_some_iff, Prod.mk.injEq] at hc
    obtain ⟨t, h1, rfl, rfl⟩ := hc
    have hg := k t (by simp)
    have e1 : fl1 (cby K.2.2.1) p = t := by
      unfold fl1
      rw [hd]
      have := jtgt_ok h1
      show (if 0 ≤ (p : Int) + off then ((p : Int) + off).toNat else p) = t
      rw [if_pos (by omega)]
      omega
    unfold Jf at hg ⊢
    unfold fl at hg ⊢
    rw [e1]
    exact J_fl1 X hg
  · cases hc
def s_ite (c : XC) (a b : ST) : ST := (fun S pc => match c.1 S false 0 pc with
    | some (p1, ts, fs) => if flA (cby S) ts p1 then (match a.1 S p1 with
      | some (p2, al, xs) => (match ckG S p2 al with
        | some (p3, ys) => if flA (cby S) fs p3 then (b.1 S p3).map (fun q => (q.1, q.2.1, (xs ++ ys) ++ q.2.2)) else none
        | none => none)
      | none => none) else none
    | none => none, fun g Q R env h bd => c.2 g (fun v h b' => cnd v (a.2 g Q R env h b') (b.2 g Q R env h b')) env h bd)
theorem OK_ite {c : XC} {a b : ST} (hc0 : OKC c) (ha : OKS a) (hb : OKS b) : OKS (s_ite c a b) := by
  refine ⟨fun S pc q h => ?_, fun g Q Q' R R' env h bd hm hr hq => hc0.2.1 g _ _ env h bd (fun v h' b' hv => cnd_mono (ha.2.1 g _ _ R R' env h' b' hm hr) (hb.2.1 g _ _ R R' env h' b' hm hr) hv) hq, fun K X T pc p' al xs hc Q env h bd hq kk => ?_⟩
  · unfold s_ite at h
    dsimp only at h
    split at h
    · rename_i p1 ts fs h1; exact hc0.1 S _ 0 pc _ h1
    · cases h
  · unfold s_ite at hc hq
    dsimp only at hc hq
    split at hc
    · rename_i p1 ts fs h1
      split at hc
      · rename_i hf
        split at hc
        · rename_i p2 al2 xs2 h2
          split at hc
          · rename_i p3 ys h3
            split at hc
            · rename_i hf2
              simp only [Option.map_eq_some_iff] at hc
              obtain ⟨⟨p4, al4, xs4⟩, h4, h5⟩ := hc
              simp only [Prod.mk.injEq] at h5
              obtain ⟨rfl, rfl, rfl⟩ := h5
              refine hc0.2.2 K X false 0 pc p1 ts fs h1 _ env [] h bd (Nat.le_refl _) hq (fun h' b' hv => ?_) (fun h' b' hv => ?_)
              · have hj : Jf K p1 env [] h' b' := Jf.of (ha.1 _ _ _ h2) (ha.2.2 K X T p1 _ _ _ h2 _ env h' b' (hv.1 rfl) (fun e h'' b'' hq => ⟨ckG_to X h3 (fun t ht => (kk e h'' b'' hq).2 t (List.mem_append_left _ (List.mem_append_right _ ht))), fun t ht => (kk e h'' b'' hq).2 t (List.mem_append_left _ (List.mem_append_left _ ht))⟩))
                exact ⟨flA_to hf hj, fun _ => hj⟩
              · have hj : Jf K p3 env [] h' b' := Jf.of (hb.1 _ _ _ h4) (hb.2.2 K X T p3 _ _ _ h4 _ env h' b' (hv.2 rfl) (fun e h'' b'' hq => ⟨(kk e h'' b'' hq).1, fun t ht => (kk e h'' b'' hq).2 t (List.mem_append_right _ ht)⟩))
                exact ⟨flA_to hf2 hj, fun e => by cases e⟩
            · cases hc
          · cases hc
        · cases hc
      · cases hc
    · cases hc
/-- the goto behind a loop's body; it may stand there though the body's end isn't reached -/
def ckW (S : SC) (p : Nat) (al : Bool) (pc : Nat) : Option (Nat × List Nat) := if al then ckG S p al else (match decode (cby S) p with | .ok (.goto off, 3) => if jtgt p off = some pc then some (p + 3, []) else some (p, []) | _ => some (p, []))
theorem ckW_to {K : KT} {p p2 q : Nat} {al : Bool} {xs : List Nat} {env : LE} {st : List Value} {h : FH} {b : Bd} (X : JOK K) (hc : ckW K.2.2.1 p al q = some (p2, xs)) (k : ∀ t ∈ xs, Jf K t env st h b) (ha : al = true) : Jf K p env st h b := by
  unfold ckW at hc
  rw [if_pos ha] at hc
  exact ckG_to X hc k ha
/-- while: what it does by an invariant with a number that falls -/
def s_whl (c : XC) (a : ST) : ST := (fun S pc => match c.1 S false 0 pc with
    | some (p1, ts, fs) => if flA (cby S) ts p1 then (match a.1 S p1 with
      | some (p2, al, xs) => (match ckW S p2 al pc with
        | some (p3, ys) => if flA (cby S) (xs ++ ys) pc then some (p3, false, fs) else none
        | none => none)
      | none => none) else none
    | none => none, fun g Q R env h bd => ∃ I : Nat → LE → FH → Bd → Prop, (∃ n, I n env h bd) ∧ ∀ n env h bd, I n env h bd → c.2 g (fun v h b' => cnd v (a.2 g (fun e h b' => ∃ m, m < n ∧ I m e h b') R env h b') (Q env h b')) env h bd)
theorem OK_whl {c : XC} {a : ST} (hc0 : OKC c) (ha : OKS a) : OKS (s_whl c a) := by
  refine ⟨fun S pc q h => ?_, fun g Q Q' R R' env h bd hm hr hq => ?_, fun K X T pc p' al xs hc Q env h bd hq kk => ?_⟩
  · unfold s_whl at h
    dsimp only at h
    split at h
    · rename_i p1 ts fs h1; exact hc0.1 S _ 0 pc _ h1
    · cases h
  · obtain ⟨I, h0, hI⟩ := hq
    exact ⟨I, h0, fun n env h bd hn => hc0.2.1 g _ _ env h bd (fun v h' b' hv => cnd_mono (ha.2.1 g _ _ R R' env h' b' (fun _ _ _ z => z) hr) (hm _ _ _) hv) (hI n env h bd hn)⟩
  · unfold s_whl at hc hq
    dsimp only at hc hq
    obtain ⟨I, ⟨n, h0⟩, hI⟩ := hq
    split at hc
    · rename_i p1 ts fs h1
      split at hc
      · rename_i hf
        split at hc
        · rename_i p2 al2 xs2 h2
          split at hc
          · rename_i p3 ys h3
            split at hc
            · rename_i hf2
              simp only [Option.some.injEq, Prod.mk.injEq] at hc
              obtain ⟨rfl, rfl, rfl⟩ := hc
              induction n using Nat.strongRecOn generalizing env h bd with
              | ind n ih =>
                refine hc0.2.2 K X false 0 pc p1 ts _ h1 _ env [] h bd (Nat.le_refl _) (hI n env h bd h0) (fun h' b' hv => ?_) (fun h' b' hv => ?_)
                · have hj : Jf K p1 env [] h' b' := Jf.of (ha.1 _ _ _ h2) (ha.2.2 K X T p1 _ _ _ h2 _ env h' b' (hv.1 rfl) (fun e h'' b'' hq => by
                    obtain ⟨m, hm, hq⟩ := hq
                    have hj := Jf.of (hc0.1 _ _ _ _ _ h1) (ih m hm e h'' b'' hq)
                    have hall := flA_to hf2 hj
                    exact ⟨ckW_to X h3 (fun t ht => hall t (List.mem_append_right _ ht)), fun t ht => hall t (List.mem_append_left _ ht)⟩))
                  exact ⟨flA_to hf hj, fun _ => hj⟩
                · exact ⟨fun t ht => (kk env h' b' (hv.2 rfl)).2 t ht, fun e => by cases e⟩
            · cases hc
          · cases hc
        · cases hc
      · cases hc
    · cases hc
/-! returns -/
def s_retI (e : XI) : ST := (fun S pc => match e.1 S 0 pc with | some p1 => if isI S p1 .ireturn 1 = true ∧ crt S = some .int then some (p1 + 1, false, []) else none | none => none, fun g _ R env h b => e.2 g (fun x h _ => R (some (.int x)) h) env h b)
def s_retZ (e : XI) : ST := (fun S pc => match e.1 S 0 pc with | some p1 => if isI S p1 .ireturn 1 = true ∧ crt S = some .boolean then some (p1 + 1, false, []) else none | none => none, fun g _ R env h b => e.2 g (fun x h _ => (x = 0 ∨ x = 1) ∧ R (some (.int x)) h) env h b)
def s_retL (e : XL) : ST := (fun S pc => match e.1 S 0 pc with | some p1 => if isI S p1 .lreturn 1 = true ∧ crt S = some .long then some (p1 + 1, false, []) else none | none => none, fun g _ R env h b => e.2 g (fun x h _ => R (some (.long x)) h) env h b)
def isOb (t : Option FieldType) : Bool := match t with | some (.object _) => true | _ => false
def s_retR (e : XR) : ST := (fun S pc => match e.1 S 0 pc with | some p1 => if isI S p1 .areturn 1 = true ∧ isOb (crt S) = true then some (p1 + 1, false, []) else none | none => none, fun g _ R env h b => e.2 g (fun x h _ => R (some (va_rf x)) h) env h b)
def s_ret : ST := (fun S pc => if isI S pc .return_ 1 = true ∧ crt S = none then some (pc + 1, false, []) else none, fun _ _ R _ h _ => R none h)
theorem OK_retG {α : Type} {va : α → Value} {ins : Instr} {cond : SC → Bool} {pre : α → Prop} {e : E α} {s : ST} (h1 : ∀ S pc, s.1 S pc = match e.1 S 0 pc with | some p1 => if isI S p1 ins 1 = true ∧ cond S = true then some (p1 + 1, false, []) else none | none => none)
    (h2 : ∀ g Q R env h b, s.2 g Q R env h b ↔ e.2 g (fun x h _ => pre x ∧ R (some (va x)) h) env h b) (hg : ∀ off, ins ≠ .goto off)
    (row : ∀ (K : KT) (pc : Nat) (env : LE) (h : FH) (b : Bd) (x : α), JOK K → KRT K → decode (cby K.2.2.1) pc = .ok (ins, 1) → cond K.2.2.1 = true → pre x → K.2.2.2 (some (va x)) h → J K pc env [va x] h b) (he : OKE va e) : OKS s := by
  refine ⟨fun S pc q h => ?_, fun g Q Q' R R' env h b hm hr hq => ?_, fun K X T pc p' al xs hc Q env h b hq k => ?_⟩
  · rw [h1] at h
    split at h
    · rename_i p1 hp; exact he.1 S 0 pc p1 hp
    · cases h
  · rw [h2] at hq ⊢
    exact he.2.1 g _ _ env h b (fun v h' b' hv => ⟨hv.1, hr _ _ hv.2⟩) hq
  · rw [h1] at hc
    rw [h2] at hq
    split at hc
    · rename_i p1 hp
      split at hc
      · rename_i hd
        exact he.2.2 K X 0 pc p1 hp _ env [] h b (Nat.le_refl _) hq (fun x h' b' hx => Jf.of (fl1_of (isI_d hd.1) hg) (row K p1 env h' b' x X T (isI_d hd.1) hd.2 hx.1 hx.2))
      · cases hc
    · cases hc
theorem OK_retI {e : XI} (he : OKI e) : OKS (s_retI e) := OK_retG (ins := .ireturn) (cond := fun S => decide (crt S = some .int)) (pre := fun _ => True) (fun S pc => by simp [s_retI]) (fun g Q R env h b => by simp [s_retI]) (by simp) (fun K pc env h b x X T hd hc _ hR => T.1 pc env h b x hd (by rw [of_decide_eq_true hc]; exact trivial) hR) he
theorem OK_retZ {e : XI} (he : OKI e) : OKS (s_retZ e) := OK_retG (ins := .ireturn) (cond := fun S => decide (crt S = some .boolean)) (pre := fun x => x = 0 ∨ x = 1) (fun S pc => by simp [s_retZ]) (fun g Q R env h b => by simp [s_retZ]) (by simp) (fun K pc env h b x X T hd hc hp hR => T.1 pc env h b x hd (by rw [of_decide_eq_true hc]; exact hp) hR) he
theorem OK_retL {e : XL} (he : OKL e) : OKS (s_retL e) := OK_retG (ins := .lreturn) (cond := fun S => decide (crt S = some .long)) (pre := fun _ => True) (fun S pc => by simp [s_retL]) (fun g Q R env h b => by simp [s_retL]) (by simp) (fun K pc env h b x X T hd hc _ hR => T.2.1 pc env h b x hd (of_decide_eq_true hc) hR) he
theorem OK_retR {e : XR} (he : OKR e) : OKS (s_retR e) := OK_retG (ins := .areturn) (cond := fun S => isOb (crt S)) (pre := fun _ => True) (fun S pc => by simp [s_retR]) (fun g Q R env h b => by simp [s_retR]) (by simp) (fun K pc env h b x X T hd hc _ hR => T.2.2.1 pc env h b _ hd (by
  unfold isOb at hc
  split at hc
  · rename_i n hn; exact ⟨n, hn⟩
  · cases hc) (by cases x with | none => exact Or.inl rfl | some a => exact Or.inr ⟨a, rfl⟩) hR) he
theorem OK_ret : OKS s_ret := by
  refine ⟨fun S pc q h => ?_, fun g Q Q' R R' env h b hm hr hq => hr _ _ hq, fun K X T pc p' al xs hc Q env h b hq k => ?_⟩
  · unfold s_ret at h
    dsimp only at h
    split at h
    · rename_i hd; exact fl1_of (isI_d hd.1) (by simp)
    · cases h
  · unfold s_ret at hc hq
    dsimp only at hc hq
    split at hc
    · rename_i hd; exact T.2.2.2 pc env h b (isI_d hd.1) hd.2 hq
    · cases hc
/-! calls as statements -/
def s_cV (k : Nat) (r : XR) (a : XA) : ST := (fun S pc => match r.1 S 0 pc with
    | some p1 => match a.2.1 S 1 p1 with
      | some p2 => (ckV S k a.1 p2).map (fun p => (p, true, []))
      | none => none
    | none => none, fun g Q _ env h b => r.2 g (fun r h b => ∃ q : Nat, r = some q ∧ a.2.2 g (fun As h b => (∃ fs, h.2 q = some (.inr (mci k, fs))) ∧ CallQ k g (.ref q :: As) (fun v h b => v = none ∧ Q env h b) h b) env h b) env h b)
theorem OK_scV {k : Nat} {r : XR} {a : XA} (hr : OKR r) (ha : OKAr a) : OKS (s_cV k r a) := by
  refine ⟨fun S pc q h => ?_, fun g Q Q' R R' env h b hm _ hq => ?_, fun K X T pc p' al xs hc Q env h b hq kk => ?_⟩
  · unfold s_cV at h
    dsimp only at h
    split at h
    · rename_i p1 h1; exact hr.1 S 0 pc p1 h1
    · cases h
  · refine hr.2.1 g _ _ env h b (fun v h' b' hv => ?_) hq
    obtain ⟨q, h1, h2⟩ := hv
    exact ⟨q, h1, ha.1 g _ _ env h' b' (fun As h'' b'' hA => ⟨hA.1, CallQ_mono (fun v h3 b3 hv => ⟨hv.1, hm _ _ _ hv.2⟩) hA.2⟩) h2⟩
  · unfold s_cV at hc hq
    dsimp only at hc hq
    split at hc
    · rename_i p1 h1
      split at hc
      · rename_i p2 h2
        simp only [Option.map_eq_some_iff, Prod.mk.injEq] at hc
        obtain ⟨p3, h3, rfl, rfl, rfl⟩ := hc
        refine hr.2.2 K X 0 pc p1 h1 _ env [] h b (Nat.le_refl _) hq (fun v h' b' hv => ?_)
        obtain ⟨q, rfl, hq2⟩ := hv
        refine ha.2 K X 1 p1 p2 h2 _ env [.ref q] h' b' (Nat.le_refl _) hq2 (fun As h'' b'' hl hA => ?_)
        obtain ⟨⟨fs, hf⟩, hC⟩ := hA
        refine Jf.of (ckV_fl h3) (J_V X h3 hl (Nat.zero_le _) hf hC (fun v h4 b4 hv => ?_))
        obtain ⟨rfl, hx⟩ := hv
        exact ((kk _ _ _ hx).1 rfl).j X
      · cases hc
    · cases hc
def s_cS (k : Nat) (a : XA) : ST := (fun S pc => if fl1 (cby S) pc = pc then (match a.2.1 S 0 pc with
      | some p2 => (ckS S k a.1 p2).map (fun p => (p, true, []))
      | none => none) else none, fun g Q _ env h b => a.2.2 g (fun As h b => CallQ k g As (fun v h b => v = none ∧ Q env h b) h b) env h b)
theorem OK_scS {k : Nat} {a : XA} (ha : OKAr a) : OKS (s_cS k a) := by
  refine ⟨fun S pc q h => ?_, fun g Q Q' R R' env h b hm _ hq => ha.1 g _ _ env h b (fun As h'' b'' hA => CallQ_mono (fun v h3 b3 hv => ⟨hv.1, hm _ _ _ hv.2⟩) hA) hq, fun K X T pc p' al xs hc Q env h b hq kk => ?_⟩
  · unfold s_cS at h
    dsimp only at h
    split at h
    · rename_i h1; exact h1
    · cases h
  · unfold s_cS at hc hq
    dsimp only at hc hq
    split at hc
    · split at hc
      · rename_i p2 h2
        simp only [Option.map_eq_some_iff, Prod.mk.injEq] at hc
        obtain ⟨p3, h3, rfl, rfl, rfl⟩ := hc
        refine Jf.j (ha.2 K X 0 pc p2 h2 _ env [] h b (Nat.le_refl _) hq (fun As h'' b'' hl hA => ?_)) X
        refine Jf.of (ckS_fl h3) (J_S X h3 hl (Nat.zero_le _) hA (fun v h4 b4 hv => ?_))
        obtain ⟨rfl, hx⟩ := hv
        exact ((kk _ _ _ hx).1 rfl).j X
      · cases hc
    · cases hc
/-- an int expression whose value is dropped -/
def s_pop (e : XI) : ST := (fun S pc => match e.1 S 0 pc with | some p1 => if isI S p1 .pop 1 = true then some (p1 + 1, true, []) else none | none => none, fun g Q _ env h b => e.2 g (fun _ h b => Q env h b) env h b)
theorem OK_pop {e : XI} (he : OKI e) : OKS (s_pop e) := by
  refine ⟨fun S pc q h => ?_, fun g Q Q' R R' env h b hm _ hq => he.2.1 g _ _ env h b (fun v h' b' hv => hm _ _ _ hv) hq, fun K X _ pc p' al xs hc Q env h b hq k => ?_⟩
  · unfold s_pop at h
    dsimp only at h
    split at h
    · rename_i p1 hp; exact he.1 S 0 pc p1 hp
    · cases h
  · unfold s_pop at hc hq
    dsimp only at hc hq
    split at hc
    · rename_i p1 hp
      split at hc
      · rename_i hd
        cases hc
        exact he.2.2 K X 0 pc p1 hp _ env [] h b (Nat.le_refl _) hq (fun x h' b' hx => Jf.of (fl1_of (isI_d hd) (by simp)) (J_pop (v := .int x) rfl X (isI_d hd) (((k _ _ _ hx).1 rfl).j X)))
      · cases hc
    · cases hc
/-- super() -/
def s_sup : ST := (fun S pc => if isI S pc (.aload_n 0) 1 = true then (match decode (cby S) (pc + 1) with | .ok (.invokespecial idx, 3) => if lkO (cow S) idx = true then some (pc + 4, true, []) else none | _ => none) else none, fun g Q _ env h b => 1 ≤ g.1 ∧ ∃ a, elg env 0 = some (.ref a) ∧ Q env h b)
theorem OK_sup : OKS s_sup := by
  refine ⟨fun S pc q h => ?_, fun g Q Q' R R' env h b hm _ hq => ?_, fun K X _ pc p' al xs hc Q env h b hq k => ?_⟩
  · unfold s_sup at h
    dsimp only at h
    split at h
    · rename_i hd; exact fl1_of (isI_d hd) (by simp)
    · cases h
  · obtain ⟨h1, a, h2, h3⟩ := hq
    exact ⟨h1, a, h2, hm _ _ _ h3⟩
  · unfold s_sup at hc hq
    dsimp only at hc hq
    obtain ⟨q1, a, q2, q3⟩ := hq
    split at hc
    · rename_i hd
      split at hc
      · rename_i idx hd2
        split at hc
        · rename_i hl
          cases hc
          exact J_aload_n (r := some a) q2 X (isI_d hd) (J_objInit X hd2 hl q1 (Nat.zero_le _) (((k _ _ _ q3).1 rfl).j X))
        · cases hc
      · cases hc
    · cases hc
/-- System.arraycopy(r0, sp, r1, dp, n) -/
def s_copyI (r0 : XR) (sp : XI) (r1 : XR) (dp n : XI) : ST := (fun S pc => match (aR1 r0 (aI1 sp (aR1 r1 (aI1 dp (aI1 n a_nil))))).2.1 S 0 pc with
    | some p => if fl1 (cby S) pc = pc then (match decode (cby S) p with | .ok (.invokestatic idx, 3) => if lkS (cow S) idx = true then some (p + 3, true, []) else none | _ => none) else none
    | none => none, fun g Q _ env h b => 1 ≤ g.1 ∧ (aR1 r0 (aI1 sp (aR1 r1 (aI1 dp (aI1 n a_nil))))).2.2 g (fun As h b => ∃ (a0 a n0 n1 s d m : Nat) (f f1 : Nat → Int32), As = [.ref a0, .int (nI s), .ref a, .int (nI d), .int (nI m)] ∧ h.2 a0 = some (aI n0 f) ∧ h.2 a = some (aI n1 f1) ∧ s + m ≤ n0 ∧ d + m ≤ n1 ∧ n0 < 2147483648 ∧ n1 < 2147483648 ∧ Q env (hset h a (aI n1 (va_cpy f f1 s d m))) b) env h b)
def s_copyL (r0 : XR) (sp : XI) (r1 : XR) (dp n : XI) : ST := (fun S pc => match (aR1 r0 (aI1 sp (aR1 r1 (aI1 dp (aI1 n a_nil))))).2.1 S 0 pc with
    | some p => if fl1 (cby S) pc = pc then (match decode (cby S) p with | .ok (.invokestatic idx, 3) => if lkS (cow S) idx = true then some (p + 3, true, []) else none | _ => none) else none
    | none => none, fun g Q _ env h b => 1 ≤ g.1 ∧ (aR1 r0 (aI1 sp (aR1 r1 (aI1 dp (aI1 n a_nil))))).2.2 g (fun As h b => ∃ (a0 a n0 n1 s d m : Nat) (f f1 : Nat → Int64), As = [.ref a0, .int (nI s), .ref a, .int (nI d), .int (nI m)] ∧ h.2 a0 = some (aL n0 f) ∧ h.2 a = some (aL n1 f1) ∧ s + m ≤ n0 ∧ d + m ≤ n1 ∧ n0 < 2147483648 ∧ n1 < 2147483648 ∧ Q env (hset h a (aL n1 (va_cpy f f1 s d m))) b) env h b)
theorem OK_copyI {r0 r1 : XR} {sp dp n : XI} (h0 : OKR r0) (h1 : OKI sp) (h2 : OKR r1) (h3 : OKI dp) (h4 : OKI n) : OKS (s_copyI r0 sp r1 dp n) := by
  have hA : OKAr (aR1 r0 (aI1 sp (aR1 r1 (aI1 dp (aI1 n a_nil))))) := OK_aR h0 (OK_aI h1 (OK_aR h2 (OK_aI h3 (OK_aI h4 OK_anil))))
  refine ⟨fun S pc q h => ?_, fun g Q Q' R R' env h b hm _ hq => ⟨hq.1, hA.1 g _ _ env h b (fun As h' b' hv => ?_) hq.2⟩, fun K X _ pc p' al xs hc Q env h b hq k => ?_⟩
  · unfold s_copyI at h
    dsimp only at h
    split at h
    · split at h
      · assumption
      · cases h
    · cases h
  · obtain ⟨a0, a, n0, n1, s, d, m, f, f1, e1, e2, e3, e4, e5, e6, e7, e8⟩ := hv
    exact ⟨a0, a, n0, n1, s, d, m, f, f1, e1, e2, e3, e4, e5, e6, e7, hm _ _ _ e8⟩
  · unfold s_copyI at hc hq
    dsimp only at hc hq
    split at hc
    · rename_i p hp
      split at hc
      · split at hc
        · rename_i idx hd
          split at hc
          · rename_i hl
            cases hc
            refine Jf.j (hA.2 K X 0 pc p hp _ env [] h b (Nat.le_refl _) hq.2 (fun As h' b' _ hv => Jf.of (fl1_of hd (by simp)) ?_)) X
            obtain ⟨a0, a, n0, n1, s, d, m, f, f1, rfl, e2, e3, e4, e5, e6, e7, e8⟩ := hv
            exact J_copyI X hd hl hq.1 (Nat.zero_le _) e2 e3 e4 e5 e6 e7 (((k _ _ _ e8).1 rfl).j X)
          · cases hc
        · cases hc
      · cases hc
    · cases hc
theorem OK_copyL {r0 r1 : XR} {sp dp n : XI} (h0 : OKR r0) (h1 : OKI sp) (h2 : OKR r1) (h3 : OKI dp) (h4 : OKI n) : OKS (s_copyL r0 sp r1 dp n) := by
  have hA : OKAr (aR1 r0 (aI1 sp (aR1 r1 (aI1 dp (aI1 n a_nil))))) := OK_aR h0 (OK_aI h1 (OK_aR h2 (OK_aI h3 (OK_aI h4 OK_anil))))
  refine ⟨fun S pc q h => ?_, fun g Q Q' R R' env h b hm _ hq => ⟨hq.1, hA.1 g _ _ env h b (fun As h' b' hv => ?_) hq.2⟩, fun K X _ pc p' al xs hc Q env h b hq k => ?_⟩
  · unfold s_copyL at h
    dsimp only at h
    split at h
    · split at h
      · assumption
      · cases h
    · cases h
  · obtain ⟨a0, a, n0, n1, s, d, m, f, f1, e1, e2, e3, e4, e5, e6, e7, e8⟩ := hv
    exact ⟨a0, a, n0, n1, s, d, m, f, f1, e1, e2, e3, e4, e5, e6, e7, hm _ _ _ e8⟩
  · unfold s_copyL at hc hq
    dsimp only at hc hq
    split at hc
    · rename_i p hp
      split at hc
      · split at hc
        · rename_i idx hd
          split at hc
          · rename_i hl
            cases hc
            refine Jf.j (hA.2 K X 0 pc p hp _ env [] h b (Nat.le_refl _) hq.2 (fun As h' b' _ hv => Jf.of (fl1_of hd (by simp)) ?_)) X
            obtain ⟨a0, a, n0, n1, s, d, m, f, f1, rfl, e2, e3, e4, e5, e6, e7, e8⟩ := hv
            exact J_copyL X hd hl hq.1 (Nat.zero_le _) e2 e3 e4 e5 e6 e7 (((k _ _ _ e8).1 rfl).j X)
          · cases hc
        · cases hc
      · cases hc
    · cases hc
/-- a method whose body is recognised does what its body does -/
theorem call_of {k d mc ms own : Nat} {av : List Value} {h : FH} {Rr : Option Value → FH → Prop} {r : ME × MP} {s : ST} {p' : Nat} (hr : MTB[k]? = some r) (hp : plainName r.1.1.1.cls = true) (hown : cnm own = r.1.1.1.cls) (hs : OKS s) (hc : s.1 (own, kini r.1.2.1, r.1.1.2.1, r.1.1.2.2.2, r.1.1.2.2.1) 0 = some (p', false, [])) (hlen : (lg_sl av).length ≤ r.1.1.2.2.1)
    (body : ∀ g : GE, g.1 = d → s.2 g (fun _ _ _ => False) Rr (eent r.1.1.2.2.1 av) h (mc, ms)) : Call k d av h mc ms Rr := by
  refine call_of_J hr hp hown hlen (fun K X T e1 e2 e3 => ?_)
  have hb := body (kG K) e3
  rw [← e1] at hc
  rw [← e2] at hb
  exact hs.2.2 K X T 0 p' false [] hc _ _ h (mc, ms) hb (fun e h' b' hq => hq.elim)
