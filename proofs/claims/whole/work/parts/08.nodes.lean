/-! NODES: an expression, a condition, a statement of Java as a pair: how its bytecode is recognised, and what it does (a predicate transformer over locals, flat heap and what may still be spent). OK: what is recognised does that -/
def fl1 (cc : ByteArray) (pc : Nat) : Nat := match decode cc pc with
  | .ok (.goto off, 3) => if 0 ≤ (pc : Int) + off then ((pc : Int) + off).toNat else pc
  | _ => pc
def fl (cc : ByteArray) (pc : Nat) : Nat := fl1 cc (fl1 cc (fl1 cc (fl1 cc pc)))
theorem fl_eq {cc : ByteArray} {pc : Nat} (h : fl1 cc pc = pc) : fl cc pc = pc := by
  unfold fl
  rw [h, h, h, h]
theorem J_fl1 {K : KT} {pc : Nat} {env : LE} {st : List Value} {h : FH} {b : Bd} (X : JOK K) (k : J K (fl1 (cby K.2.2.1) pc) env st h b) : J K pc env st h b := by
  unfold fl1 at k
  split at k
  · rename_i off hd
    split at k
    · exact J_goto X hd (by omega) k
    · exact k
  · exact k
theorem J_fl {K : KT} {pc : Nat} {env : LE} {st : List Value} {h : FH} {b : Bd} (X : JOK K) (k : J K (fl (cby K.2.2.1) pc) env st h b) : J K pc env st h b := J_fl1 X (J_fl1 X (J_fl1 X (J_fl1 X k)))
def Jf (K : KT) (pc : Nat) (env : LE) (st : List Value) (h : FH) (b : Bd) : Prop := J K (fl (cby K.2.2.1) pc) env st h b
theorem Jf.j {K : KT} {pc : Nat} {env : LE} {st : List Value} {h : FH} {b : Bd} (k : Jf K pc env st h b) (X : JOK K) : J K pc env st h b := J_fl X k
theorem Jf.of {K : KT} {pc : Nat} {env : LE} {st : List Value} {h : FH} {b : Bd} (hf : fl1 (cby K.2.2.1) pc = pc) (k : J K pc env st h b) : Jf K pc env st h b := by
  unfold Jf
  rw [fl_eq hf]
  exact k
def flq (cc : ByteArray) (t p : Nat) : Bool := t == p || fl cc t == fl cc p
theorem Jf.to {K : KT} {t p : Nat} {env : LE} {st : List Value} {h : FH} {b : Bd} (hq : flq (cby K.2.2.1) t p = true) (k : Jf K p env st h b) : Jf K t env st h b := by
  unfold flq at hq
  simp only [Bool.or_eq_true, beq_iff_eq] at hq
  rcases hq with rfl | hq
  · exact k
  · unfold Jf
    rw [hq]
    exact k
def flA (cc : ByteArray) (ts : List Nat) (p : Nat) : Bool := ts.all (fun t => flq cc t p)
theorem flA_to {K : KT} {ts : List Nat} {p : Nat} {env : LE} {st : List Value} {h : FH} {b : Bd} (hq : flA (cby K.2.2.1) ts p = true) (k : Jf K p env st h b) : ∀ t ∈ ts, Jf K t env st h b := fun t ht => k.to (List.all_eq_true.mp hq t ht)
/-- the instruction at pc is this one, of this length, and no goto -/
def isI (S : SC) (pc : Nat) (i : Instr) (n : Nat) : Bool := decide (decode (cby S) pc = .ok (i, n))
theorem isI_d {S : SC} {pc n : Nat} {i : Instr} (h : isI S pc i n = true) : decode (cby S) pc = .ok (i, n) := of_decide_eq_true h
theorem fl1_of {cc : ByteArray} {pc n : Nat} {i : Instr} (h : decode cc pc = .ok (i, n)) (hi : ∀ off, i ≠ .goto off) : fl1 cc pc = pc := by
  unfold fl1
  rw [h]
  split
  · rename_i off e
    cases e
    exact absurd rfl (hi off)
  · rfl
abbrev E (α : Type) : Type := (SC → Nat → Nat → Option Nat) × (GE → (α → FH → Bd → Prop) → LE → FH → Bd → Prop)
abbrev XI : Type := E Int32
abbrev XL : Type := E Int64
abbrev XR : Type := E (Option Nat)
abbrev XC : Type := (SC → Bool → Nat → Nat → Option (Nat × List Nat × List Nat)) × (GE → (Bool → FH → Bd → Prop) → LE → FH → Bd → Prop)
abbrev XA : Type := Nat × (SC → Nat → Nat → Option Nat) × (GE → (List Value → FH → Bd → Prop) → LE → FH → Bd → Prop)
abbrev ST : Type := (SC → Nat → Option (Nat × Bool × List Nat)) × (GE → (LE → FH → Bd → Prop) → (Option Value → FH → Prop) → LE → FH → Bd → Prop)
def OKE {α : Type} (val : α → Value) (e : E α) : Prop :=
  (∀ (S : SC) (sd pc pc' : Nat), e.1 S sd pc = some pc' → fl1 (cby S) pc = pc) ∧
  (∀ (g : GE) (Q Q' : α → FH → Bd → Prop) (env : LE) (h : FH) (b : Bd), (∀ v h' b', Q v h' b' → Q' v h' b') → e.2 g Q env h b → e.2 g Q' env h b) ∧
  (∀ (K : KT), JOK K → ∀ (sd pc pc' : Nat), e.1 K.2.2.1 sd pc = some pc' → ∀ (Q : α → FH → Bd → Prop) (env : LE) (st : List Value) (h : FH) (b : Bd), sw st ≤ sd → e.2 (kG K) Q env h b → (∀ v h' b', Q v h' b' → Jf K pc' env (val v :: st) h' b') → J K pc env st h b)
def OKI (e : XI) : Prop := OKE Value.int e
def OKL (e : XL) : Prop := OKE Value.long e
def OKR (e : XR) : Prop := OKE va_rf e
def OKC (c : XC) : Prop :=
  (∀ (S : SC) (m : Bool) (sd pc : Nat) (q : Nat × List Nat × List Nat), c.1 S m sd pc = some q → fl1 (cby S) pc = pc) ∧
  (∀ (g : GE) (Q Q' : Bool → FH → Bd → Prop) (env : LE) (h : FH) (b : Bd), (∀ v h' b', Q v h' b' → Q' v h' b') → c.2 g Q env h b → c.2 g Q' env h b) ∧
  (∀ (K : KT), JOK K → ∀ (m : Bool) (sd pc p' : Nat) (ts fs : List Nat), c.1 K.2.2.1 m sd pc = some (p', ts, fs) → ∀ (Q : Bool → FH → Bd → Prop) (env : LE) (st : List Value) (h : FH) (b : Bd), sw st ≤ sd → c.2 (kG K) Q env h b →
    (∀ h' b', Q true h' b' → (∀ t ∈ ts, Jf K t env st h' b') ∧ (m = false → Jf K p' env st h' b')) → (∀ h' b', Q false h' b' → (∀ t ∈ fs, Jf K t env st h' b') ∧ (m = true → Jf K p' env st h' b')) → J K pc env st h b)
def OKA (a : XA) : Prop :=
  (∀ (g : GE) (Q Q' : List Value → FH → Bd → Prop) (env : LE) (h : FH) (b : Bd), (∀ v h' b', Q v h' b' → Q' v h' b') → a.2.2 g Q env h b → a.2.2 g Q' env h b) ∧
  (∀ (K : KT), JOK K → ∀ (sd pc pc' : Nat), a.2.1 K.2.2.1 sd pc = some pc' → ∀ (Q : List Value → FH → Bd → Prop) (env : LE) (st : List Value) (h : FH) (b : Bd), sw st ≤ sd → a.2.2 (kG K) Q env h b → (∀ As h' b', As.length = a.1 → Q As h' b' → J K pc' env (As.reverse ++ st) h' b') → J K pc env st h b)
def OKS (s : ST) : Prop :=
  (∀ (S : SC) (pc : Nat) (q : Nat × Bool × List Nat), s.1 S pc = some q → fl1 (cby S) pc = pc) ∧
  (∀ (g : GE) (Q Q' : LE → FH → Bd → Prop) (R R' : Option Value → FH → Prop) (env : LE) (h : FH) (b : Bd), (∀ e h' b', Q e h' b' → Q' e h' b') → (∀ v h', R v h' → R' v h') → s.2 g Q R env h b → s.2 g Q' R' env h b) ∧
  (∀ (K : KT), JOK K → KRT K → ∀ (pc p' : Nat) (al : Bool) (xs : List Nat), s.1 K.2.2.1 pc = some (p', al, xs) → ∀ (Q : LE → FH → Bd → Prop) (env : LE) (h : FH) (b : Bd), s.2 (kG K) Q K.2.2.2 env h b →
    (∀ e h' b', Q e h' b' → (al = true → Jf K p' e [] h' b') ∧ ∀ t ∈ xs, Jf K t e [] h' b') → J K pc env [] h b)
def cnd (v : Bool) (A B : Prop) : Prop := (v = true → A) ∧ (v = false → B)
theorem cnd_mono {v : Bool} {A B A' B' : Prop} (ha : A → A') (hb : B → B') (h : cnd v A B) : cnd v A' B' := ⟨fun e => ha (h.1 e), fun e => hb (h.2 e)⟩
theorem rf_cat (r : Option Nat) : (va_rf r).category = 1 := by cases r <;> rfl
theorem sw_cons (v : Value) (st : List Value) : sw (v :: st) = v.category + sw st := by simp [sw]
/-! leaves -/
def e_leaf {α : Type} (ins : Instr) (n : Nat) (v : α) : E α := (fun S _ pc => if isI S pc ins n then some (pc + n) else none, fun _ Q _ h b => Q v h b)
theorem OK_leaf {α : Type} {val : α → Value} {ins : Instr} {n : Nat} {v : α} (hg : ∀ off, ins ≠ .goto off) (row : ∀ (K : KT) (pc : Nat) (env : LE) (st : List Value) (h : FH) (b : Bd), JOK K → decode (cby K.2.2.1) pc = .ok (ins, n) → J K (pc + n) env (val v :: st) h b → J K pc env st h b) : OKE val (e_leaf ins n v) := by
  refine ⟨fun S sd pc pc' h => ?_, fun g Q Q' env h b hm hq => hm _ _ _ hq, fun K X sd pc pc' hc Q env st h b hw hq k => ?_⟩
  · unfold e_leaf at h
    dsimp only at h
    split at h
    · rename_i hi
      exact fl1_of (isI_d hi) hg
    · cases h
  · unfold e_leaf at hc hq
    dsimp only at hc hq
    split at hc
    · rename_i hi
      cases hc
      exact row K pc env st h b X (isI_d hi) ((k v h b hq).j X)
    · cases hc
/-- a constant: the instruction that javac picks -/
def i_const (z : Int) : XI := (fun S _ pc => if -1 ≤ z ∧ z ≤ 5 then (if isI S pc (.iconst z) 1 then some (pc + 1) else none) else if -128 ≤ z ∧ z ≤ 127 then (if isI S pc (.bipush z) 2 then some (pc + 2) else none) else if -32768 ≤ z ∧ z ≤ 32767 then (if isI S pc (.sipush z) 3 then some (pc + 3) else none) else
    (match decode (cby S) pc with
      | .ok (.ldc i, 2) => if lkI (cow S) i = some (Int32.ofInt z) then some (pc + 2) else none
      | .ok (.ldc_w i, 3) => if lkI (cow S) i = some (Int32.ofInt z) then some (pc + 3) else none
      | _ => none), fun _ Q _ h b => Q (Int32.ofInt z) h b)
theorem c8 {z : Int} (h : -128 ≤ z ∧ z ≤ 127) : (Int8.ofInt z).toInt32 = Int32.ofInt z := by
  apply Int32.toInt_inj.mp
  rw [Int8.toInt_toInt32, Int8.toInt_ofInt, Int32.toInt_ofInt]
  show Int.bmod z 256 = Int.bmod z 4294967296
  rw [Int.bmod_eq_of_le (by omega) (by omega), Int.bmod_eq_of_le (by omega) (by omega)]
theorem c16 {z : Int} (h : -32768 ≤ z ∧ z ≤ 32767) : (Int16.ofInt z).toInt32 = Int32.ofInt z := by
  apply Int32.toInt_inj.mp
  rw [Int16.toInt_toInt32, Int16.toInt_ofInt, Int32.toInt_ofInt]
  show Int.bmod z 65536 = Int.bmod z 4294967296
  rw [Int.bmod_eq_of_le (by omega) (by omega), Int.bmod_eq_of_le (by omega) (by omega)]
theorem OK_const (z : Int) : OKI (i_const z) := by
  refine ⟨fun S sd pc pc' h => ?_, fun g Q Q' env h b hm hq => hm _ _ _ hq, fun K X sd pc pc' hc Q env st h b hw hq k => ?_⟩
  · unfold i_const at h
    dsimp only at h
    split at h
    · split at h
      · rename_i hi; exact fl1_of (isI_d hi) (by simp)
      · cases h
    · split at h
      · split at h
        · rename_i hi; exact fl1_of (isI_d hi) (by simp)
        · cases h
      · split at h
        · split at h
          · rename_i hi; exact fl1_of (isI_d hi) (by simp)
          · cases h
        · split at h
          · rename_i hi; exact fl1_of hi (by simp)
          · rename_i hi; exact fl1_of hi (by simp)
          · cases h
  · unfold i_const at hc hq
    dsimp only at hc hq
    split at hc
    · split at hc
      · rename_i hi; cases hc; exact J_iconst rfl X (isI_d hi) ((k _ h b hq).j X)
      · cases hc
    · split at hc
      · rename_i hz
        split at hc
        · rename_i hi; cases hc; exact J_bipush (c8 hz) X (isI_d hi) ((k _ h b hq).j X)
        · cases hc
      · split at hc
        · rename_i hz
          split at hc
          · rename_i hi; cases hc; exact J_sipush (c16 hz) X (isI_d hi) ((k _ h b hq).j X)
          · cases hc
        · split at hc
          · rename_i hi
            split at hc
            · rename_i hv; cases hc; exact J_ldc X hi hv ((k _ h b hq).j X)
            · cases hc
          · rename_i hi
            split at hc
            · rename_i hv; cases hc; exact J_ldcw X hi hv ((k _ h b hq).j X)
            · cases hc
          · cases hc
def l_const (z : Int) : XL := (fun S _ pc => match decode (cby S) pc with
      | .ok (.lconst n, 1) => if Int64.ofNat (n : Nat) = Int64.ofInt z then some (pc + 1) else none
      | .ok (.ldc2_w i, 3) => if lkL (cow S) i = some (Int64.ofInt z) then some (pc + 3) else none
      | _ => none, fun _ Q _ h b => Q (Int64.ofInt z) h b)
theorem OK_lconst (z : Int) : OKL (l_const z) := by
  refine ⟨fun S sd pc pc' h => ?_, fun g Q Q' env h b hm hq => hm _ _ _ hq, fun K X sd pc pc' hc Q env st h b hw hq k => ?_⟩
  · unfold l_const at h
    dsimp only at h
    split at h
    · rename_i hi; exact fl1_of hi (by simp)
    · rename_i hi; exact fl1_of hi (by simp)
    · cases h
  · unfold l_const at hc hq
    dsimp only at hc hq
    split at hc
    · rename_i hi
      split at hc
      · rename_i hv; cases hc; exact J_lconst hv X hi ((k _ h b hq).j X)
      · cases hc
    · rename_i hi
      split at hc
      · rename_i hv; cases hc; exact J_ldc2 X hi hv ((k _ h b hq).j X)
      · cases hc
    · cases hc
def r_null : XR := e_leaf .aconst_null 1 none
theorem OK_null : OKR r_null := OK_leaf (by simp) (fun K pc env st h b X hd k => J_null X hd k)
/-- locals -/
def isL (S : SC) (pc : Nat) (i : Nat) (f : Nat → Instr) (f4 : Fin 4 → Instr) : Option Nat := if h : i < 4 then (if isI S pc (f4 ⟨i, h⟩) 1 then some (pc + 1) else none) else (if isI S pc (f i) 2 then some (pc + 2) else none)
def i_loc (i : Nat) : XI := (fun S _ pc => isL S pc i .iload .iload_n, fun _ Q env h b => match elg env i with | some (.int x) => Q x h b | _ => False)
def l_loc (i : Nat) : XL := (fun S _ pc => isL S pc i .lload .lload_n, fun _ Q env h b => match elg env i with | some (.long x) => Q x h b | _ => False)
def r_loc (i : Nat) : XR := (fun S _ pc => isL S pc i .aload .aload_n, fun _ Q env h b => match elg env i with | some (.ref a) => Q (some a) h b | some .null => Q none h b | _ => False)
theorem isL_fl {S : SC} {pc i pc' : Nat} {f : Nat → Instr} {f4 : Fin 4 → Instr} (h : isL S pc i f f4 = some pc') (hf : ∀ i off, f i ≠ .goto off) (hf4 : ∀ i off, f4 i ≠ .goto off) : fl1 (cby S) pc = pc := by
  unfold isL at h
  split at h
  · split at h
    · rename_i hi; exact fl1_of (isI_d hi) (hf4 _)
    · cases h
  · split at h
    · rename_i hi; exact fl1_of (isI_d hi) (hf _)
    · cases h
theorem OK_iloc (i : Nat) : OKI (i_loc i) := by
  refine ⟨fun S sd pc pc' h => isL_fl h (by simp) (by simp), fun g Q Q' env h b hm hq => ?_, fun K X sd pc pc' hc Q env st h b hw hq k => ?_⟩
  · unfold i_loc at hq ⊢
    dsimp only at hq ⊢
    split at hq
    · exact hm _ _ _ hq
    · exact hq.elim
  · unfold i_loc at hc hq
    dsimp only at hc hq
    split at hq
    · rename_i x he
      unfold isL at hc
      split at hc
      · split at hc
        · rename_i hi; cases hc; exact J_iload_n he X (isI_d hi) ((k x h b hq).j X)
        · cases hc
      · split at hc
        · rename_i hi; cases hc; exact J_iload he X (isI_d hi) ((k x h b hq).j X)
        · cases hc
    · exact hq.elim
theorem OK_lloc (i : Nat) : OKL (l_loc i) := by
  refine ⟨fun S sd pc pc' h => isL_fl h (by simp) (by simp), fun g Q Q' env h b hm hq => ?_, fun K X sd pc pc' hc Q env st h b hw hq k => ?_⟩
  · unfold l_loc at hq ⊢
    dsimp only at hq ⊢
    split at hq
    · exact hm _ _ _ hq
    · exact hq.elim
  · unfold l_loc at hc hq
    dsimp only at hc hq
    split at hq
    · rename_i x he
      unfold isL at hc
      split at hc
      · split at hc
        · rename_i hi; cases hc; exact J_lload_n he X (isI_d hi) ((k x h b hq).j X)
        · cases hc
      · split at hc
        · rename_i hi; cases hc; exact J_lload he X (isI_d hi) ((k x h b hq).j X)
        · cases hc
    · exact hq.elim
theorem OK_rloc (i : Nat) : OKR (r_loc i) := by
  refine ⟨fun S sd pc pc' h => isL_fl h (by simp) (by simp), fun g Q Q' env h b hm hq => ?_, fun K X sd pc pc' hc Q env st h b hw hq k => ?_⟩
  · unfold r_loc at hq ⊢
    dsimp only at hq ⊢
    split at hq
    · exact hm _ _ _ hq
    · exact hm _ _ _ hq
    · exact hq.elim
  · unfold r_loc at hc hq
    dsimp only at hc hq
    have main : ∀ r : Option Nat, elg env i = some (va_rf r) → Q r h b → J K pc env st h b := fun r he hq => by
      unfold isL at hc
      split at hc
      · split at hc
        · rename_i hi; cases hc; exact J_aload_n he X (isI_d hi) ((k r h b hq).j X)
        · cases hc
      · split at hc
        · rename_i hi; cases hc; exact J_aload he X (isI_d hi) ((k r h b hq).j X)
        · cases hc
    split at hq
    · rename_i a he; exact main (some a) he hq
    · rename_i he; exact main none he hq
    · exact hq.elim
/-! one and two operands -/
def e_un {α β : Type} (ins : Instr) (f : α → β) (a : E α) : E β := (fun S sd pc => match a.1 S sd pc with
    | some p1 => if isI S p1 ins 1 then some (p1 + 1) else none
    | none => none, fun g Q env h b => a.2 g (fun x => Q (f x)) env h b)
theorem OK_un {α β : Type} {va : α → Value} {vb : β → Value} {ins : Instr} {f : α → β} {a : E α} (hg : ∀ off, ins ≠ .goto off) (row : ∀ (K : KT) (pc : Nat) (env : LE) (st : List Value) (h : FH) (b : Bd) (x : α), JOK K → decode (cby K.2.2.1) pc = .ok (ins, 1) → J K (pc + 1) env (vb (f x) :: st) h b → J K pc env (va x :: st) h b) (ha : OKE va a) : OKE vb (e_un ins f a) := by
  refine ⟨fun S sd pc pc' h => ?_, fun g Q Q' env h b hm hq => ha.2.1 g _ _ env h b (fun v h' b' => hm _ _ _) hq, fun K X sd pc pc' hc Q env st h b hw hq k => ?_⟩
  · unfold e_un at h
    dsimp only at h
    split at h
    · rename_i p1 h1; exact ha.1 S sd pc p1 h1
    · cases h
  · unfold e_un at hc hq
    dsimp only at hc hq
    split at hc
    · rename_i p1 h1
      split at hc
      · rename_i hi
        cases hc
        exact ha.2.2 K X sd pc p1 h1 _ env st h b hw hq (fun v h' b' hv => Jf.of (fl1_of (isI_d hi) hg) (row K p1 env st h' b' v X (isI_d hi) ((k _ h' b' hv).j X)))
      · cases hc
    · cases hc
def e_bin {α β γ : Type} (w : Nat) (ins : Instr) (f : α → β → γ) (a : E α) (b : E β) : E γ := (fun S sd pc => match a.1 S sd pc with
    | some p1 => match b.1 S (sd + w) p1 with
      | some p2 => if isI S p2 ins 1 then some (p2 + 1) else none
      | none => none
    | none => none, fun g Q env h bd => a.2 g (fun x h' b' => b.2 g (fun y => Q (f x y)) env h' b') env h bd)
theorem OK_bin {α β γ : Type} {va : α → Value} {vb : β → Value} {vc : γ → Value} {w : Nat} {ins : Instr} {f : α → β → γ} {a : E α} {b : E β} (hg : ∀ off, ins ≠ .goto off) (hw : ∀ x, (va x).category ≤ w) (row : ∀ (K : KT) (pc : Nat) (env : LE) (st : List Value) (h : FH) (bd : Bd) (x : α) (y : β), JOK K → decode (cby K.2.2.1) pc = .ok (ins, 1) → J K (pc + 1) env (vc (f x y) :: st) h bd → J K pc env (vb y :: va x :: st) h bd) (ha : OKE va a) (hb : OKE vb b) : OKE vc (e_bin w ins f a b) := by
  refine ⟨fun S sd pc pc' h => ?_, fun g Q Q' env h bd hm hq => ha.2.1 g _ _ env h bd (fun v h' b' hv => hb.2.1 g _ _ env h' b' (fun v h' b' => hm _ _ _) hv) hq, fun K X sd pc pc' hc Q env st h bd hs hq k => ?_⟩
  · unfold e_bin at h
    dsimp only at h
    split at h
    · rename_i p1 h1; exact ha.1 S sd pc p1 h1
    · cases h
  · unfold e_bin at hc hq
    dsimp only at hc hq
    split at hc
    · rename_i p1 h1
      split at hc
      · rename_i p2 h2
        split at hc
        · rename_i hi
          cases hc
          refine ha.2.2 K X sd pc p1 h1 _ env st h bd hs hq (fun x h' b' hx => Jf.of (hb.1 _ _ _ _ h2) ?_)
          refine hb.2.2 K X (sd + w) p1 p2 h2 _ env (va x :: st) h' b' ?_ hx (fun y h'' b'' hy => Jf.of (fl1_of (isI_d hi) hg) (row K p2 env st h'' b'' x y X (isI_d hi) ((k _ h'' b'' hy).j X)))
          have := hw x
          rw [sw_cons]
          omega
        · cases hc
      · cases hc
    · cases hc
abbrev i_bin (ins : Instr) (f : Int32 → Int32 → Int32) (a b : XI) : XI := e_bin 1 ins f a b
def i_add (a b : XI) : XI := i_bin .iadd (fun x y => x + y) a b
def i_sub (a b : XI) : XI := i_bin .isub (fun x y => x - y) a b
def i_mul (a b : XI) : XI := i_bin .imul (fun x y => x * y) a b
def i_and (a b : XI) : XI := i_bin .iand (fun x y => x &&& y) a b
def i_or (a b : XI) : XI := i_bin .ior (fun x y => x ||| y) a b
def i_xor (a b : XI) : XI := i_bin .ixor (fun x y => x ^^^ y) a b
def i_shl (a b : XI) : XI := i_bin .ishl (fun x y => x <<< (y &&& 31)) a b
def i_shr (a b : XI) : XI := i_bin .ishr (fun x y => x >>> (y &&& 31)) a b
def i_ushr (a b : XI) : XI := i_bin .iushr (fun x y => (x.toUInt32 >>> (y.toUInt32 &&& Int32.toUInt32 31)).toInt32) a b
def l_add (a b : XL) : XL := e_bin 2 .ladd (fun x y => x + y) a b
def l_mul (a b : XL) : XL := e_bin 2 .lmul (fun x y => x * y) a b
def l_and (a b : XL) : XL := e_bin 2 .land (fun x y => x &&& y) a b
def l_or (a b : XL) : XL := e_bin 2 .lor (fun x y => x ||| y) a b
def l_xor (a b : XL) : XL := e_bin 2 .lxor (fun x y => x ^^^ y) a b
def l_shl (a : XL) (b : XI) : XL := e_bin 2 .lshl (fun x (y : Int32) => x <<< (y.toInt64 &&& 63)) a b
def l_shr (a : XL) (b : XI) : XL := e_bin 2 .lshr (fun x (y : Int32) => x >>> (y.toInt64 &&& 63)) a b
def l_ushr (a : XL) (b : XI) : XL := e_bin 2 .lushr (fun x (y : Int32) => (x.toUInt64 >>> (y.toInt64.toUInt64 &&& Int64.toUInt64 63)).toInt64) a b
def l_i2l (a : XI) : XL := e_un .i2l (fun x : Int32 => x.toInt64) a
def i_l2i (a : XL) : XI := e_un .l2i (fun x : Int64 => x.toInt32) a
theorem OK_add {a b : XI} (ha : OKI a) (hb : OKI b) : OKI (i_add a b) := OK_bin (by simp) (fun _ => Nat.le_refl _) (fun K pc env st h bd x y X hd k => J_iadd X hd k) ha hb
theorem OK_sub {a b : XI} (ha : OKI a) (hb : OKI b) : OKI (i_sub a b) := OK_bin (by simp) (fun _ => Nat.le_refl _) (fun K pc env st h bd x y X hd k => J_isub X hd k) ha hb
theorem OK_mul {a b : XI} (ha : OKI a) (hb : OKI b) : OKI (i_mul a b) := OK_bin (by simp) (fun _ => Nat.le_refl _) (fun K pc env st h bd x y X hd k => J_imul X hd k) ha hb
theorem OK_and {a b : XI} (ha : OKI a) (hb : OKI b) : OKI (i_and a b) := OK_bin (by simp) (fun _ => Nat.le_refl _) (fun K pc env st h bd x y X hd k => J_iand X hd k) ha hb
theorem OK_or {a b : XI} (ha : OKI a) (hb : OKI b) : OKI (i_or a b) := OK_bin (by simp) (fun _ => Nat.le_refl _) (fun K pc env st h bd x y X hd k => J_ior X hd k) ha hb
theorem OK_xor {a b : XI} (ha : OKI a) (hb : OKI b) : OKI (i_xor a b) := OK_bin (by simp) (fun _ => Nat.le_refl _) (fun K pc env st h bd x y X hd k => J_ixor X hd k) ha hb
theorem OK_shl {a b : XI} (ha : OKI a) (hb : OKI b) : OKI (i_shl a b) := OK_bin (by simp) (fun _ => Nat.le_refl _) (fun K pc env st h bd x y X hd k => J_ishl X hd k) ha hb
theorem OK_shr {a b : XI} (ha : OKI a) (hb : OKI b) : OKI (i_shr a b) := OK_bin (by simp) (fun _ => Nat.le_refl _) (fun K pc env st h bd x y X hd k => J_ishr X hd k) ha hb
theorem OK_ushr {a b : XI} (ha : OKI a) (hb : OKI b) : OKI (i_ushr a b) := OK_bin (by simp) (fun _ => Nat.le_refl _) (fun K pc env st h bd x y X hd k => J_iushr X hd k) ha hb
theorem OK_ladd {a b : XL} (ha : OKL a) (hb : OKL b) : OKL (l_add a b) := OK_bin (by simp) (fun _ => Nat.le_refl _) (fun K pc env st h bd x y X hd k => J_ladd X hd k) ha hb
theorem OK_lmul {a b : XL} (ha : OKL a) (hb : OKL b) : OKL (l_mul a b) := OK_bin (by simp) (fun _ => Nat.le_refl _) (fun K pc env st h bd x y X hd k => J_lmul X hd k) ha hb
theorem OK_land {a b : XL} (ha : OKL a) (hb : OKL b) : OKL (l_and a b) := OK_bin (by simp) (fun _ => Nat.le_refl _) (fun K pc env st h bd x y X hd k => J_land X hd k) ha hb
theorem OK_lor {a b : XL} (ha : OKL a) (hb : OKL b) : OKL (l_or a b) := OK_bin (by simp) (fun _ => Nat.le_refl _) (fun K pc env st h bd x y X hd k => J_lor X hd k) ha hb
theorem OK_lxor {a b : XL} (ha : OKL a) (hb : OKL b) : OKL (l_xor a b) := OK_bin (by simp) (fun _ => Nat.le_refl _) (fun K pc env st h bd x y X hd k => J_lxor X hd k) ha hb
theorem OK_lshl {a : XL} {b : XI} (ha : OKL a) (hb : OKI b) : OKL (l_shl a b) := OK_bin (vb := Value.int) (by simp) (fun _ => Nat.le_refl _) (fun K pc env st h bd x y X hd k => J_lshl X hd k) ha hb
theorem OK_lshr {a : XL} {b : XI} (ha : OKL a) (hb : OKI b) : OKL (l_shr a b) := OK_bin (vb := Value.int) (by simp) (fun _ => Nat.le_refl _) (fun K pc env st h bd x y X hd k => J_lshr X hd k) ha hb
theorem OK_lushr {a : XL} {b : XI} (ha : OKL a) (hb : OKI b) : OKL (l_ushr a b) := OK_bin (vb := Value.int) (by simp) (fun _ => Nat.le_refl _) (fun K pc env st h bd x y X hd k => J_lushr X hd k) ha hb
theorem OK_i2l {a : XI} (ha : OKI a) : OKL (l_i2l a) := OK_un (va := Value.int) (by simp) (fun K pc env st h bd x X hd k => J_i2l X hd k) ha
theorem OK_l2i {a : XL} (ha : OKL a) : OKI (i_l2i a) := OK_un (va := Value.long) (by simp) (fun K pc env st h bd x X hd k => J_l2i X hd k) ha
