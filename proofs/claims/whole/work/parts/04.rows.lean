/-! J: the machine of a method's activation K, at pc with these locals, this stack and this flat heap, with b = (cells, slots) still to spend, comes to its end. A row an instruction -/
abbrev SC : Type := Nat × Bool × ByteArray × Option FieldType × Nat
abbrev KT : Type := (Program × Launch × Env × Room × State × MethodId × Array Value × List Frame × Method × Code) × ((State → Prop) × FPr) × SC × (Option Value → FH → Prop)
abbrev cow (S : SC) : Nat := S.1
abbrev cin (S : SC) : Bool := S.2.1
abbrev cby (S : SC) : ByteArray := S.2.2.1
abbrev crt (S : SC) : Option FieldType := S.2.2.2.1
abbrev cnl (S : SC) : Nat := S.2.2.2.2
abbrev GE : Type := Nat × Nat × Nat × (Nat → Int32) × Nat
abbrev kG (K : KT) : GE := (K.1.2.2.2.1.frames, K.2.1.2.2.2)
def sw (st : List Value) : Nat := (st.map fun v => v.category).sum
def J (K : KT) (pc : Nat) (env : LE) (st : List Value) (h : FH) (b : Bd) : Prop :=
  ∀ (H : Heap) (locs : List Loc) (ls : Array Slot) (kc ks : Nat), fwH K.2.1.2 K.1.2.2.2.2.1 h H → (∀ q ∈ locs, K.2.1.2.2.1 ≤ q.base) → lv_has ls K.2.2.1.2.2.2.2 (asl 0 env) → kc + b.1 ≤ K.1.2.2.2.1.cells → ks + b.2 ≤ K.1.2.2.2.1.slots →
    W K.1.1 K.1.2.1 K.1.2.2.1 K.1.2.2.2.1 K.1.2.2.2.2.1 K.1.2.2.2.2.2.1 K.1.2.2.2.2.2.2.1 K.1.2.2.2.2.2.2.2.1 K.1.2.2.2.2.2.2.2.2.1 K.1.2.2.2.2.2.2.2.2.2 H locs kc ks K.2.1.1 (F0 K.1.2.2.2.2.2.1 pc ls st)
def JOK (K : KT) : Prop :=
  K.1.1.tables.exec = Jvm.exec ∧ K.1.2.2.2.2.2.2.2.2.2.code = K.2.2.1.2.2.1 ∧ K.1.2.2.2.2.2.2.2.2.2.maxLocals = K.2.2.1.2.2.2.2 ∧ K.1.2.2.2.2.1.vm.findClass (cnm K.2.2.1.1) = some K.1.2.2.2.2.2.1.cls ∧
  (∀ w ∈ ALL, w.before K.1.2.2.2.2.2.2.1 K.1.2.2.2.2.1 = true) ∧ fwV K.2.1.2 K.1.2.2.2.2.1 ∧ (K.2.2.1.2.1 = true → K.1.2.2.2.2.2.2.2.2.1.name = "<init>") ∧ 40 * K.1.2.2.2.1.frames ≤ K.1.2.2.2.1.locals
def nrI (t : Option FieldType) (v : Int32) : Prop := match t with
  | some .int => True
  | some .boolean => v = 0 ∨ v = 1
  | _ => False
/-- the returns -/
def KRT (K : KT) : Prop :=
  (∀ (pc : Nat) (env : LE) (h : FH) (b : Bd) (v : Int32), decode (cby K.2.2.1) pc = .ok (.ireturn, 1) → nrI (crt K.2.2.1) v → K.2.2.2 (some (.int v)) h → J K pc env [.int v] h b) ∧
  (∀ (pc : Nat) (env : LE) (h : FH) (b : Bd) (v : Int64), decode (cby K.2.2.1) pc = .ok (.lreturn, 1) → crt K.2.2.1 = some .long → K.2.2.2 (some (.long v)) h → J K pc env [.long v] h b) ∧
  (∀ (pc : Nat) (env : LE) (h : FH) (b : Bd) (v : Value), decode (cby K.2.2.1) pc = .ok (.areturn, 1) → (∃ n, crt K.2.2.1 = some (.object n)) → (v = .null ∨ ∃ a, v = .ref a) → K.2.2.2 (some v) h → J K pc env [v] h b) ∧
  (∀ (pc : Nat) (env : LE) (h : FH) (b : Bd), decode (cby K.2.2.1) pc = .ok (.return_, 1) → crt K.2.2.1 = none → K.2.2.2 none h → J K pc env [] h b)
theorem J_iconst {K : KT} {pc : Nat} {env : LE} {st : List Value} {h : FH} {b : Bd} {n : Int} {v : Int32} (hv : Int32.ofInt n = v) (X : JOK K) (hd : decode (cby K.2.2.1) pc = .ok (.iconst n, 1)) (k : J K (pc + 1) env (.int v :: st) h b) : J K pc env st h b := by
  obtain ⟨⟨p, l, e, R, s, m, args, below, meth, c⟩, ⟨Q, P⟩, ⟨own, ini, cc, ret, nL⟩, Rr⟩ := K
  intro H locs ls kc ks hH hL hl h1 h2
  exact lv_iconst X.1 X.2.1 hd hv (k H locs ls kc ks hH hL hl h1 h2)
theorem J_bipush {K : KT} {pc : Nat} {env : LE} {st : List Value} {h : FH} {b : Bd} {n : Int} {v : Int32} (hv : (Int8.ofInt n).toInt32 = v) (X : JOK K) (hd : decode (cby K.2.2.1) pc = .ok (.bipush n, 2)) (k : J K (pc + 2) env (.int v :: st) h b) : J K pc env st h b := by
  obtain ⟨⟨p, l, e, R, s, m, args, below, meth, c⟩, ⟨Q, P⟩, ⟨own, ini, cc, ret, nL⟩, Rr⟩ := K
  intro H locs ls kc ks hH hL hl h1 h2
  exact lv_bipush X.1 X.2.1 hd hv (k H locs ls kc ks hH hL hl h1 h2)
theorem J_sipush {K : KT} {pc : Nat} {env : LE} {st : List Value} {h : FH} {b : Bd} {n : Int} {v : Int32} (hv : (Int16.ofInt n).toInt32 = v) (X : JOK K) (hd : decode (cby K.2.2.1) pc = .ok (.sipush n, 3)) (k : J K (pc + 3) env (.int v :: st) h b) : J K pc env st h b := by
  obtain ⟨⟨p, l, e, R, s, m, args, below, meth, c⟩, ⟨Q, P⟩, ⟨own, ini, cc, ret, nL⟩, Rr⟩ := K
  intro H locs ls kc ks hH hL hl h1 h2
  exact lv_sipush X.1 X.2.1 hd hv (k H locs ls kc ks hH hL hl h1 h2)
theorem J_lconst {K : KT} {pc : Nat} {env : LE} {st : List Value} {h : FH} {b : Bd} {n : Fin 2} {v : Int64} (hv : Int64.ofNat (n : Nat) = v) (X : JOK K) (hd : decode (cby K.2.2.1) pc = .ok (.lconst n, 1)) (k : J K (pc + 1) env (.long v :: st) h b) : J K pc env st h b := by
  obtain ⟨⟨p, l, e, R, s, m, args, below, meth, c⟩, ⟨Q, P⟩, ⟨own, ini, cc, ret, nL⟩, Rr⟩ := K
  intro H locs ls kc ks hH hL hl h1 h2
  exact lv_lconst X.1 X.2.1 hd hv (k H locs ls kc ks hH hL hl h1 h2)
theorem J_null {K : KT} {pc : Nat} {env : LE} {st : List Value} {h : FH} {b : Bd} (X : JOK K) (hd : decode (cby K.2.2.1) pc = .ok (.aconst_null, 1)) (k : J K (pc + 1) env (.null :: st) h b) : J K pc env st h b := by
  obtain ⟨⟨p, l, e, R, s, m, args, below, meth, c⟩, ⟨Q, P⟩, ⟨own, ini, cc, ret, nL⟩, Rr⟩ := K
  intro H locs ls kc ks hH hL hl h1 h2
  exact lv_null X.1 X.2.1 hd (k H locs ls kc ks hH hL hl h1 h2)
theorem J_iload_n {K : KT} {pc : Nat} {env : LE} {st : List Value} {h : FH} {b : Bd} {i : Fin 4} {x : Int32} (he : elg env i = some (.int x)) (X : JOK K) (hd : decode (cby K.2.2.1) pc = .ok (.iload_n i, 1)) (k : J K (pc + 1) env (.int x :: st) h b) : J K pc env st h b := by
  obtain ⟨⟨p, l, e, R, s, m, args, below, meth, c⟩, ⟨Q, P⟩, ⟨own, ini, cc, ret, nL⟩, Rr⟩ := K
  intro H locs ls kc ks hH hL hl h1 h2
  exact lv_iload_n X.1 X.2.1 hd rfl (le_at hl he) (k H locs ls kc ks hH hL hl h1 h2)
theorem J_iload {K : KT} {pc : Nat} {env : LE} {st : List Value} {h : FH} {b : Bd} {i : Nat} {x : Int32} (he : elg env i = some (.int x)) (X : JOK K) (hd : decode (cby K.2.2.1) pc = .ok (.iload i, 2)) (k : J K (pc + 2) env (.int x :: st) h b) : J K pc env st h b := by
  obtain ⟨⟨p, l, e, R, s, m, args, below, meth, c⟩, ⟨Q, P⟩, ⟨own, ini, cc, ret, nL⟩, Rr⟩ := K
  intro H locs ls kc ks hH hL hl h1 h2
  exact lv_iload X.1 X.2.1 hd (le_at hl he) (k H locs ls kc ks hH hL hl h1 h2)
theorem J_lload_n {K : KT} {pc : Nat} {env : LE} {st : List Value} {h : FH} {b : Bd} {i : Fin 4} {x : Int64} (he : elg env i = some (.long x)) (X : JOK K) (hd : decode (cby K.2.2.1) pc = .ok (.lload_n i, 1)) (k : J K (pc + 1) env (.long x :: st) h b) : J K pc env st h b := by
  obtain ⟨⟨p, l, e, R, s, m, args, below, meth, c⟩, ⟨Q, P⟩, ⟨own, ini, cc, ret, nL⟩, Rr⟩ := K
  intro H locs ls kc ks hH hL hl h1 h2
  exact lv_lload_n X.1 X.2.1 hd rfl (le_at hl he) (k H locs ls kc ks hH hL hl h1 h2)
theorem J_lload {K : KT} {pc : Nat} {env : LE} {st : List Value} {h : FH} {b : Bd} {i : Nat} {x : Int64} (he : elg env i = some (.long x)) (X : JOK K) (hd : decode (cby K.2.2.1) pc = .ok (.lload i, 2)) (k : J K (pc + 2) env (.long x :: st) h b) : J K pc env st h b := by
  obtain ⟨⟨p, l, e, R, s, m, args, below, meth, c⟩, ⟨Q, P⟩, ⟨own, ini, cc, ret, nL⟩, Rr⟩ := K
  intro H locs ls kc ks hH hL hl h1 h2
  exact lv_lload X.1 X.2.1 hd (le_at hl he) (k H locs ls kc ks hH hL hl h1 h2)
theorem J_istore_n {K : KT} {pc : Nat} {env : LE} {st : List Value} {h : FH} {b : Bd} {i : Fin 4} {x : Int32} (hn : (i : Nat) < cnl K.2.2.1) (X : JOK K) (hd : decode (cby K.2.2.1) pc = .ok (.istore_n i, 1)) (k : J K (pc + 1) (est1 env i (.int x)) st h b) : J K pc env (.int x :: st) h b := by
  obtain ⟨⟨p, l, e, R, s, m, args, below, meth, c⟩, ⟨Q, P⟩, ⟨own, ini, cc, ret, nL⟩, Rr⟩ := K
  intro H locs ls kc ks hH hL hl h1 h2
  exact lv_istore_n X.1 X.2.1 hd rfl hl hn rfl (fun ls2 hl2 => k H locs ls2 kc ks hH hL (le_st1 hl2) h1 h2)
theorem J_istore {K : KT} {pc : Nat} {env : LE} {st : List Value} {h : FH} {b : Bd} {i : Nat} {x : Int32} (hn : i < cnl K.2.2.1) (X : JOK K) (hd : decode (cby K.2.2.1) pc = .ok (.istore i, 2)) (k : J K (pc + 2) (est1 env i (.int x)) st h b) : J K pc env (.int x :: st) h b := by
  obtain ⟨⟨p, l, e, R, s, m, args, below, meth, c⟩, ⟨Q, P⟩, ⟨own, ini, cc, ret, nL⟩, Rr⟩ := K
  intro H locs ls kc ks hH hL hl h1 h2
  exact lv_istore X.1 X.2.1 hd hl hn rfl (fun ls2 hl2 => k H locs ls2 kc ks hH hL (le_st1 hl2) h1 h2)
theorem J_lstore_n {K : KT} {pc : Nat} {env : LE} {st : List Value} {h : FH} {b : Bd} {i : Fin 4} {x : Int64} (hn : (i : Nat) + 1 < cnl K.2.2.1) (X : JOK K) (hd : decode (cby K.2.2.1) pc = .ok (.lstore_n i, 1)) (k : J K (pc + 1) (est2 env i (.long x)) st h b) : J K pc env (.long x :: st) h b := by
  obtain ⟨⟨p, l, e, R, s, m, args, below, meth, c⟩, ⟨Q, P⟩, ⟨own, ini, cc, ret, nL⟩, Rr⟩ := K
  intro H locs ls kc ks hH hL hl h1 h2
  exact lv_lstore_n X.1 X.2.1 hd rfl hl hn rfl (fun ls2 hl2 => k H locs ls2 kc ks hH hL (le_st2 hl2) h1 h2)
theorem J_lstore {K : KT} {pc : Nat} {env : LE} {st : List Value} {h : FH} {b : Bd} {i : Nat} {x : Int64} (hn : i + 1 < cnl K.2.2.1) (X : JOK K) (hd : decode (cby K.2.2.1) pc = .ok (.lstore i, 2)) (k : J K (pc + 2) (est2 env i (.long x)) st h b) : J K pc env (.long x :: st) h b := by
  obtain ⟨⟨p, l, e, R, s, m, args, below, meth, c⟩, ⟨Q, P⟩, ⟨own, ini, cc, ret, nL⟩, Rr⟩ := K
  intro H locs ls kc ks hH hL hl h1 h2
  exact lv_lstore X.1 X.2.1 hd hl hn rfl (fun ls2 hl2 => k H locs ls2 kc ks hH hL (le_st2 hl2) h1 h2)
theorem J_iadd {K : KT} {pc : Nat} {env : LE} {st : List Value} {h : FH} {b : Bd} {x y : Int32} (X : JOK K) (hd : decode (cby K.2.2.1) pc = .ok (.iadd, 1)) (k : J K (pc + 1) env (.int (x + y) :: st) h b) : J K pc env (.int y :: .int x :: st) h b := by
  obtain ⟨⟨p, l, e, R, s, m, args, below, meth, c⟩, ⟨Q, P⟩, ⟨own, ini, cc, ret, nL⟩, Rr⟩ := K
  intro H locs ls kc ks hH hL hl h1 h2
  exact lv_iadd X.1 X.2.1 hd (k H locs ls kc ks hH hL hl h1 h2)
theorem J_isub {K : KT} {pc : Nat} {env : LE} {st : List Value} {h : FH} {b : Bd} {x y : Int32} (X : JOK K) (hd : decode (cby K.2.2.1) pc = .ok (.isub, 1)) (k : J K (pc + 1) env (.int (x - y) :: st) h b) : J K pc env (.int y :: .int x :: st) h b := by
  obtain ⟨⟨p, l, e, R, s, m, args, below, meth, c⟩, ⟨Q, P⟩, ⟨own, ini, cc, ret, nL⟩, Rr⟩ := K
  intro H locs ls kc ks hH hL hl h1 h2
  exact lv_isub X.1 X.2.1 hd (k H locs ls kc ks hH hL hl h1 h2)
theorem J_imul {K : KT} {pc : Nat} {env : LE} {st : List Value} {h : FH} {b : Bd} {x y : Int32} (X : JOK K) (hd : decode (cby K.2.2.1) pc = .ok (.imul, 1)) (k : J K (pc + 1) env (.int (x * y) :: st) h b) : J K pc env (.int y :: .int x :: st) h b := by
  obtain ⟨⟨p, l, e, R, s, m, args, below, meth, c⟩, ⟨Q, P⟩, ⟨own, ini, cc, ret, nL⟩, Rr⟩ := K
  intro H locs ls kc ks hH hL hl h1 h2
  exact lv_imul X.1 X.2.1 hd (k H locs ls kc ks hH hL hl h1 h2)
theorem J_iand {K : KT} {pc : Nat} {env : LE} {st : List Value} {h : FH} {b : Bd} {x y : Int32} (X : JOK K) (hd : decode (cby K.2.2.1) pc = .ok (.iand, 1)) (k : J K (pc + 1) env (.int (x &&& y) :: st) h b) : J K pc env (.int y :: .int x :: st) h b := by
  obtain ⟨⟨p, l, e, R, s, m, args, below, meth, c⟩, ⟨Q, P⟩, ⟨own, ini, cc, ret, nL⟩, Rr⟩ := K
  intro H locs ls kc ks hH hL hl h1 h2
  exact lv_iand X.1 X.2.1 hd (k H locs ls kc ks hH hL hl h1 h2)
theorem J_ior {K : KT} {pc : Nat} {env : LE} {st : List Value} {h : FH} {b : Bd} {x y : Int32} (X : JOK K) (hd : decode (cby K.2.2.1) pc = .ok (.ior, 1)) (k : J K (pc + 1) env (.int (x ||| y) :: st) h b) : J K pc env (.int y :: .int x :: st) h b := by
  obtain ⟨⟨p, l, e, R, s, m, args, below, meth, c⟩, ⟨Q, P⟩, ⟨own, ini, cc, ret, nL⟩, Rr⟩ := K
  intro H locs ls kc ks hH hL hl h1 h2
  exact lv_ior X.1 X.2.1 hd (k H locs ls kc ks hH hL hl h1 h2)
theorem J_ixor {K : KT} {pc : Nat} {env : LE} {st : List Value} {h : FH} {b : Bd} {x y : Int32} (X : JOK K) (hd : decode (cby K.2.2.1) pc = .ok (.ixor, 1)) (k : J K (pc + 1) env (.int (x ^^^ y) :: st) h b) : J K pc env (.int y :: .int x :: st) h b := by
  obtain ⟨⟨p, l, e, R, s, m, args, below, meth, c⟩, ⟨Q, P⟩, ⟨own, ini, cc, ret, nL⟩, Rr⟩ := K
  intro H locs ls kc ks hH hL hl h1 h2
  exact lv_ixor X.1 X.2.1 hd (k H locs ls kc ks hH hL hl h1 h2)
theorem J_ishl {K : KT} {pc : Nat} {env : LE} {st : List Value} {h : FH} {b : Bd} {x y : Int32} (X : JOK K) (hd : decode (cby K.2.2.1) pc = .ok (.ishl, 1)) (k : J K (pc + 1) env (.int (x <<< (y &&& 31)) :: st) h b) : J K pc env (.int y :: .int x :: st) h b := by
  obtain ⟨⟨p, l, e, R, s, m, args, below, meth, c⟩, ⟨Q, P⟩, ⟨own, ini, cc, ret, nL⟩, Rr⟩ := K
  intro H locs ls kc ks hH hL hl h1 h2
  exact lv_ishl X.1 X.2.1 hd (k H locs ls kc ks hH hL hl h1 h2)
theorem J_ishr {K : KT} {pc : Nat} {env : LE} {st : List Value} {h : FH} {b : Bd} {x y : Int32} (X : JOK K) (hd : decode (cby K.2.2.1) pc = .ok (.ishr, 1)) (k : J K (pc + 1) env (.int (x >>> (y &&& 31)) :: st) h b) : J K pc env (.int y :: .int x :: st) h b := by
  obtain ⟨⟨p, l, e, R, s, m, args, below, meth, c⟩, ⟨Q, P⟩, ⟨own, ini, cc, ret, nL⟩, Rr⟩ := K
  intro H locs ls kc ks hH hL hl h1 h2
  exact lv_ishr X.1 X.2.1 hd (k H locs ls kc ks hH hL hl h1 h2)
theorem J_ladd {K : KT} {pc : Nat} {env : LE} {st : List Value} {h : FH} {b : Bd} {x y : Int64} (X : JOK K) (hd : decode (cby K.2.2.1) pc = .ok (.ladd, 1)) (k : J K (pc + 1) env (.long (x + y) :: st) h b) : J K pc env (.long y :: .long x :: st) h b := by
  obtain ⟨⟨p, l, e, R, s, m, args, below, meth, c⟩, ⟨Q, P⟩, ⟨own, ini, cc, ret, nL⟩, Rr⟩ := K
  intro H locs ls kc ks hH hL hl h1 h2
  exact lv_ladd X.1 X.2.1 hd (k H locs ls kc ks hH hL hl h1 h2)
theorem J_lmul {K : KT} {pc : Nat} {env : LE} {st : List Value} {h : FH} {b : Bd} {x y : Int64} (X : JOK K) (hd : decode (cby K.2.2.1) pc = .ok (.lmul, 1)) (k : J K (pc + 1) env (.long (x * y) :: st) h b) : J K pc env (.long y :: .long x :: st) h b := by
  obtain ⟨⟨p, l, e, R, s, m, args, below, meth, c⟩, ⟨Q, P⟩, ⟨own, ini, cc, ret, nL⟩, Rr⟩ := K
  intro H locs ls kc ks hH hL hl h1 h2
  exact lv_lmul X.1 X.2.1 hd (k H locs ls kc ks hH hL hl h1 h2)
theorem J_land {K : KT} {pc : Nat} {env : LE} {st : List Value} {h : FH} {b : Bd} {x y : Int64} (X : JOK K) (hd : decode (cby K.2.2.1) pc = .ok (.land, 1)) (k : J K (pc + 1) env (.long (x &&& y) :: st) h b) : J K pc env (.long y :: .long x :: st) h b := by
  obtain ⟨⟨p, l, e, R, s, m, args, below, meth, c⟩, ⟨Q, P⟩, ⟨own, ini, cc, ret, nL⟩, Rr⟩ := K
  intro H locs ls kc ks hH hL hl h1 h2
  exact lv_land X.1 X.2.1 hd (k H locs ls kc ks hH hL hl h1 h2)
theorem J_lor {K : KT} {pc : Nat} {env : LE} {st : List Value} {h : FH} {b : Bd} {x y : Int64} (X : JOK K) (hd : decode (cby K.2.2.1) pc = .ok (.lor, 1)) (k : J K (pc + 1) env (.long (x ||| y) :: st) h b) : J K pc env (.long y :: .long x :: st) h b := by
  obtain ⟨⟨p, l, e, R, s, m, args, below, meth, c⟩, ⟨Q, P⟩, ⟨own, ini, cc, ret, nL⟩, Rr⟩ := K
  intro H locs ls kc ks hH hL hl h1 h2
  exact lv_lor X.1 X.2.1 hd (k H locs ls kc ks hH hL hl h1 h2)
theorem J_lxor {K : KT} {pc : Nat} {env : LE} {st : List Value} {h : FH} {b : Bd} {x y : Int64} (X : JOK K) (hd : decode (cby K.2.2.1) pc = .ok (.lxor, 1)) (k : J K (pc + 1) env (.long (x ^^^ y) :: st) h b) : J K pc env (.long y :: .long x :: st) h b := by
  obtain ⟨⟨p, l, e, R, s, m, args, below, meth, c⟩, ⟨Q, P⟩, ⟨own, ini, cc, ret, nL⟩, Rr⟩ := K
  intro H locs ls kc ks hH hL hl h1 h2
  exact lv_lxor X.1 X.2.1 hd (k H locs ls kc ks hH hL hl h1 h2)
theorem J_aload_n {K : KT} {pc : Nat} {env : LE} {st : List Value} {h : FH} {b : Bd} {i : Fin 4} {r : Option Nat} (he : elg env i = some (va_rf r)) (X : JOK K) (hd : decode (cby K.2.2.1) pc = .ok (.aload_n i, 1)) (k : J K (pc + 1) env (va_rf r :: st) h b) : J K pc env st h b := by
  obtain ⟨⟨p, l, e, R, s, m, args, below, meth, c⟩, ⟨Q, P⟩, ⟨own, ini, cc, ret, nL⟩, Rr⟩ := K
  intro H locs ls kc ks hH hL hl h1 h2
  cases r with
  | none => exact lv_aload_nN X.1 X.2.1 hd rfl (le_at hl he) (k H locs ls kc ks hH hL hl h1 h2)
  | some a => exact lv_aload_n X.1 X.2.1 hd rfl (le_at hl he) (k H locs ls kc ks hH hL hl h1 h2)
theorem J_aload {K : KT} {pc : Nat} {env : LE} {st : List Value} {h : FH} {b : Bd} {i : Nat} {r : Option Nat} (he : elg env i = some (va_rf r)) (X : JOK K) (hd : decode (cby K.2.2.1) pc = .ok (.aload i, 2)) (k : J K (pc + 2) env (va_rf r :: st) h b) : J K pc env st h b := by
  obtain ⟨⟨p, l, e, R, s, m, args, below, meth, c⟩, ⟨Q, P⟩, ⟨own, ini, cc, ret, nL⟩, Rr⟩ := K
  intro H locs ls kc ks hH hL hl h1 h2
  cases r with
  | none => exact lv_aloadN X.1 X.2.1 hd (le_at hl he) (k H locs ls kc ks hH hL hl h1 h2)
  | some a => exact lv_aload X.1 X.2.1 hd (le_at hl he) (k H locs ls kc ks hH hL hl h1 h2)
theorem J_astore_n {K : KT} {pc : Nat} {env : LE} {st : List Value} {h : FH} {b : Bd} {i : Fin 4} {r : Option Nat} (hn : (i : Nat) < cnl K.2.2.1) (X : JOK K) (hd : decode (cby K.2.2.1) pc = .ok (.astore_n i, 1)) (k : J K (pc + 1) (est1 env i (va_rf r)) st h b) : J K pc env (va_rf r :: st) h b := by
  obtain ⟨⟨p, l, e, R, s, m, args, below, meth, c⟩, ⟨Q, P⟩, ⟨own, ini, cc, ret, nL⟩, Rr⟩ := K
  intro H locs ls kc ks hH hL hl h1 h2
  cases r with
  | none => exact lv_astore_nN X.1 X.2.1 hd rfl hl hn rfl (fun ls2 hl2 => k H locs ls2 kc ks hH hL (le_st1 hl2) h1 h2)
  | some a => exact lv_astore_n X.1 X.2.1 hd rfl hl hn rfl (fun ls2 hl2 => k H locs ls2 kc ks hH hL (le_st1 hl2) h1 h2)
theorem J_astore {K : KT} {pc : Nat} {env : LE} {st : List Value} {h : FH} {b : Bd} {i : Nat} {r : Option Nat} (hn : i < cnl K.2.2.1) (X : JOK K) (hd : decode (cby K.2.2.1) pc = .ok (.astore i, 2)) (k : J K (pc + 2) (est1 env i (va_rf r)) st h b) : J K pc env (va_rf r :: st) h b := by
  obtain ⟨⟨p, l, e, R, s, m, args, below, meth, c⟩, ⟨Q, P⟩, ⟨own, ini, cc, ret, nL⟩, Rr⟩ := K
  intro H locs ls kc ks hH hL hl h1 h2
  cases r with
  | none => exact lv_astoreN X.1 X.2.1 hd hl hn rfl (fun ls2 hl2 => k H locs ls2 kc ks hH hL (le_st1 hl2) h1 h2)
  | some a => exact lv_astore X.1 X.2.1 hd hl hn rfl (fun ls2 hl2 => k H locs ls2 kc ks hH hL (le_st1 hl2) h1 h2)
theorem J_idiv {K : KT} {pc : Nat} {env : LE} {st : List Value} {h : FH} {b : Bd} {x y : Int32} (hz : ¬ y = 0) (X : JOK K) (hd : decode (cby K.2.2.1) pc = .ok (.idiv, 1)) (k : J K (pc + 1) env (.int (x / y) :: st) h b) : J K pc env (.int y :: .int x :: st) h b := by
  obtain ⟨⟨p, l, e, R, s, m, args, below, meth, c⟩, ⟨Q, P⟩, ⟨own, ini, cc, ret, nL⟩, Rr⟩ := K
  intro H locs ls kc ks hH hL hl h1 h2
  exact lv_idiv X.1 X.2.1 hd hz (k H locs ls kc ks hH hL hl h1 h2)
theorem J_irem {K : KT} {pc : Nat} {env : LE} {st : List Value} {h : FH} {b : Bd} {x y : Int32} (hz : ¬ y = 0) (X : JOK K) (hd : decode (cby K.2.2.1) pc = .ok (.irem, 1)) (k : J K (pc + 1) env (.int (x - x / y * y) :: st) h b) : J K pc env (.int y :: .int x :: st) h b := by
  obtain ⟨⟨p, l, e, R, s, m, args, below, meth, c⟩, ⟨Q, P⟩, ⟨own, ini, cc, ret, nL⟩, Rr⟩ := K
  intro H locs ls kc ks hH hL hl h1 h2
  exact lv_irem X.1 X.2.1 hd hz (k H locs ls kc ks hH hL hl h1 h2)
theorem J_iushr {K : KT} {pc : Nat} {env : LE} {st : List Value} {h : FH} {b : Bd} {x y : Int32} (X : JOK K) (hd : decode (cby K.2.2.1) pc = .ok (.iushr, 1)) (k : J K (pc + 1) env (.int (x.toUInt32 >>> (y.toUInt32 &&& Int32.toUInt32 31)).toInt32 :: st) h b) : J K pc env (.int y :: .int x :: st) h b := by
  obtain ⟨⟨p, l, e, R, s, m, args, below, meth, c⟩, ⟨Q, P⟩, ⟨own, ini, cc, ret, nL⟩, Rr⟩ := K
  intro H locs ls kc ks hH hL hl h1 h2
  exact lv_iushr X.1 X.2.1 hd rfl (k H locs ls kc ks hH hL hl h1 h2)
theorem J_lushr {K : KT} {pc : Nat} {env : LE} {st : List Value} {h : FH} {b : Bd} {x : Int64} {y : Int32} (X : JOK K) (hd : decode (cby K.2.2.1) pc = .ok (.lushr, 1)) (k : J K (pc + 1) env (.long (x.toUInt64 >>> (y.toInt64.toUInt64 &&& Int64.toUInt64 63)).toInt64 :: st) h b) : J K pc env (.int y :: .long x :: st) h b := by
  obtain ⟨⟨p, l, e, R, s, m, args, below, meth, c⟩, ⟨Q, P⟩, ⟨own, ini, cc, ret, nL⟩, Rr⟩ := K
  intro H locs ls kc ks hH hL hl h1 h2
  exact lv_lushr X.1 X.2.1 hd rfl (k H locs ls kc ks hH hL hl h1 h2)
theorem J_lshl {K : KT} {pc : Nat} {env : LE} {st : List Value} {h : FH} {b : Bd} {x : Int64} {y : Int32} (X : JOK K) (hd : decode (cby K.2.2.1) pc = .ok (.lshl, 1)) (k : J K (pc + 1) env (.long (x <<< (y.toInt64 &&& 63)) :: st) h b) : J K pc env (.int y :: .long x :: st) h b := by
  obtain ⟨⟨p, l, e, R, s, m, args, below, meth, c⟩, ⟨Q, P⟩, ⟨own, ini, cc, ret, nL⟩, Rr⟩ := K
  intro H locs ls kc ks hH hL hl h1 h2
  exact lv_lshl X.1 X.2.1 hd rfl (k H locs ls kc ks hH hL hl h1 h2)
theorem J_lshr {K : KT} {pc : Nat} {env : LE} {st : List Value} {h : FH} {b : Bd} {x : Int64} {y : Int32} (X : JOK K) (hd : decode (cby K.2.2.1) pc = .ok (.lshr, 1)) (k : J K (pc + 1) env (.long (x >>> (y.toInt64 &&& 63)) :: st) h b) : J K pc env (.int y :: .long x :: st) h b := by
  obtain ⟨⟨p, l, e, R, s, m, args, below, meth, c⟩, ⟨Q, P⟩, ⟨own, ini, cc, ret, nL⟩, Rr⟩ := K
  intro H locs ls kc ks hH hL hl h1 h2
  exact lv_lshr X.1 X.2.1 hd rfl (k H locs ls kc ks hH hL hl h1 h2)
theorem J_i2l {K : KT} {pc : Nat} {env : LE} {st : List Value} {h : FH} {b : Bd} {x : Int32} (X : JOK K) (hd : decode (cby K.2.2.1) pc = .ok (.i2l, 1)) (k : J K (pc + 1) env (.long x.toInt64 :: st) h b) : J K pc env (.int x :: st) h b := by
  obtain ⟨⟨p, l, e, R, s, m, args, below, meth, c⟩, ⟨Q, P⟩, ⟨own, ini, cc, ret, nL⟩, Rr⟩ := K
  intro H locs ls kc ks hH hL hl h1 h2
  exact lv_i2l X.1 X.2.1 hd rfl (k H locs ls kc ks hH hL hl h1 h2)
theorem J_l2i {K : KT} {pc : Nat} {env : LE} {st : List Value} {h : FH} {b : Bd} {x : Int64} (X : JOK K) (hd : decode (cby K.2.2.1) pc = .ok (.l2i, 1)) (k : J K (pc + 1) env (.int x.toInt32 :: st) h b) : J K pc env (.long x :: st) h b := by
  obtain ⟨⟨p, l, e, R, s, m, args, below, meth, c⟩, ⟨Q, P⟩, ⟨own, ini, cc, ret, nL⟩, Rr⟩ := K
  intro H locs ls kc ks hH hL hl h1 h2
  exact lv_l2i X.1 X.2.1 hd rfl (k H locs ls kc ks hH hL hl h1 h2)
theorem J_lcmp {K : KT} {pc : Nat} {env : LE} {st : List Value} {h : FH} {b : Bd} {x y : Int64} (X : JOK K) (hd : decode (cby K.2.2.1) pc = .ok (.lcmp, 1)) (k : J K (pc + 1) env (.int (lg_cmp x y) :: st) h b) : J K pc env (.long y :: .long x :: st) h b := by
  obtain ⟨⟨p, l, e, R, s, m, args, below, meth, c⟩, ⟨Q, P⟩, ⟨own, ini, cc, ret, nL⟩, Rr⟩ := K
  intro H locs ls kc ks hH hL hl h1 h2
  exact W.lcmp X.1 X.2.1 hd (k H locs ls kc ks hH hL hl h1 h2)
theorem J_dup {K : KT} {pc : Nat} {env : LE} {st : List Value} {h : FH} {b : Bd} {v : Value} (hv : v.category = 1) (X : JOK K) (hd : decode (cby K.2.2.1) pc = .ok (.dup, 1)) (k : J K (pc + 1) env (v :: v :: st) h b) : J K pc env (v :: st) h b := by
  obtain ⟨⟨p, l, e, R, s, m, args, below, meth, c⟩, ⟨Q, P⟩, ⟨own, ini, cc, ret, nL⟩, Rr⟩ := K
  intro H locs ls kc ks hH hL hl h1 h2
  exact lv_dup X.1 X.2.1 hd hv (k H locs ls kc ks hH hL hl h1 h2)
theorem J_pop {K : KT} {pc : Nat} {env : LE} {st : List Value} {h : FH} {b : Bd} {v : Value} (hv : v.category = 1) (X : JOK K) (hd : decode (cby K.2.2.1) pc = .ok (.pop, 1)) (k : J K (pc + 1) env st h b) : J K pc env (v :: st) h b := by
  obtain ⟨⟨p, l, e, R, s, m, args, below, meth, c⟩, ⟨Q, P⟩, ⟨own, ini, cc, ret, nL⟩, Rr⟩ := K
  intro H locs ls kc ks hH hL hl h1 h2
  exact lv_pop X.1 X.2.1 hd hv (k H locs ls kc ks hH hL hl h1 h2)
theorem J_dup2 {K : KT} {pc : Nat} {env : LE} {st : List Value} {h : FH} {b : Bd} {v w : Value} (hv : v.category = 1) (hw : w.category = 1) (X : JOK K) (hd : decode (cby K.2.2.1) pc = .ok (.dup2, 1)) (k : J K (pc + 1) env (v :: w :: v :: w :: st) h b) : J K pc env (v :: w :: st) h b := by
  obtain ⟨⟨p, l, e, R, s, m, args, below, meth, c⟩, ⟨Q, P⟩, ⟨own, ini, cc, ret, nL⟩, Rr⟩ := K
  intro H locs ls kc ks hH hL hl h1 h2
  exact lv_dup2_11 X.1 X.2.1 hd hv hw (k H locs ls kc ks hH hL hl h1 h2)
theorem J_iinc {K : KT} {pc : Nat} {env : LE} {st : List Value} {h : FH} {b : Bd} {i : Nat} {n : Int} {x : Int32} (X : JOK K) (hn : i < cnl K.2.2.1) (he : elg env i = some (.int x)) (hd : decode (cby K.2.2.1) pc = .ok (.iinc i n, 3)) (k : J K (pc + 3) (est1 env i (.int (x + Int32.ofInt n))) st h b) : J K pc env st h b := by
  obtain ⟨⟨p, l, e, R, s, m, args, below, meth, c⟩, ⟨Q, P⟩, ⟨own, ini, cc, ret, nL⟩, Rr⟩ := K
  intro H locs ls kc ks hH hL hl h1 h2
  have hm := asl_mem env 0 i _ he
  rw [Nat.zero_add] at hm
  obtain ⟨q, hq⟩ := List.getElem?_of_mem hm
  exact lv_iinc X.1 X.2.1 hd hl hq rfl hn rfl (fun ls2 hl2 => k H locs ls2 kc ks hH hL (le_st1 hl2) h1 h2)
theorem J_goto {K : KT} {pc : Nat} {env : LE} {st : List Value} {h : FH} {b : Bd} {off : Int} {tgt : Nat} (X : JOK K) (hd : decode (cby K.2.2.1) pc = .ok (.goto off, 3)) (ht : (pc : Int) + off = (tgt : Int)) (k : J K tgt env st h b) : J K pc env st h b := by
  obtain ⟨⟨p, l, e, R, s, m, args, below, meth, c⟩, ⟨Q, P⟩, ⟨own, ini, cc, ret, nL⟩, Rr⟩ := K
  intro H locs ls kc ks hH hL hl h1 h2
  exact lv_goto X.1 X.2.1 hd ht (k H locs ls kc ks hH hL hl h1 h2)
def icm (c : Jvm.ClassFile.Cond) (x y : Int32) : Bool := match c with
  | .eq => decide (x = y)
  | .ne => !decide (x = y)
  | .lt => decide (x < y)
  | .ge => decide (y ≤ x)
  | .gt => decide (y < x)
  | .le => decide (x ≤ y)
theorem J_icmp {K : KT} {pc : Nat} {env : LE} {st : List Value} {h : FH} {b : Bd} {cd : Jvm.ClassFile.Cond} {off : Int} {tgt : Nat} {x y : Int32} (X : JOK K) (hd : decode (cby K.2.2.1) pc = .ok (.if_icmp cd off, 3)) (ht : (pc : Int) + off = (tgt : Int)) (kt : icm cd x y = true → J K tgt env st h b) (kf : icm cd x y = false → J K (pc + 3) env st h b) : J K pc env (.int y :: .int x :: st) h b := by
  obtain ⟨⟨p, l, e, R, s, m, args, below, meth, c⟩, ⟨Q, P⟩, ⟨own, ini, cc, ret, nL⟩, Rr⟩ := K
  intro H locs ls kc ks hH hL hl h1 h2
  cases cd with
  | eq => exact lv_icmp_eq X.1 X.2.1 hd ht (fun q => kt (by simp [icm, q]) H locs ls kc ks hH hL hl h1 h2) (fun q => kf (by simp [icm, q]) H locs ls kc ks hH hL hl h1 h2)
  | ne => exact lv_icmp_ne X.1 X.2.1 hd ht (fun q => kt (by simp [icm, q]) H locs ls kc ks hH hL hl h1 h2) (fun q => kf (by simp [icm, q]) H locs ls kc ks hH hL hl h1 h2)
  | lt => exact lv_icmp_lt X.1 X.2.1 hd ht (fun q => kt (decide_eq_true q) H locs ls kc ks hH hL hl h1 h2) (fun q => kf (decide_eq_false q) H locs ls kc ks hH hL hl h1 h2)
  | ge => exact lv_icmp_ge X.1 X.2.1 hd ht (fun q => kt (decide_eq_true q) H locs ls kc ks hH hL hl h1 h2) (fun q => kf (decide_eq_false q) H locs ls kc ks hH hL hl h1 h2)
  | gt => exact lv_icmp_gt X.1 X.2.1 hd ht (fun q => kt (decide_eq_true q) H locs ls kc ks hH hL hl h1 h2) (fun q => kf (decide_eq_false q) H locs ls kc ks hH hL hl h1 h2)
  | le => exact lv_icmp_le X.1 X.2.1 hd ht (fun q => kt (decide_eq_true q) H locs ls kc ks hH hL hl h1 h2) (fun q => kf (decide_eq_false q) H locs ls kc ks hH hL hl h1 h2)
theorem J_ifc {K : KT} {pc : Nat} {env : LE} {st : List Value} {h : FH} {b : Bd} {cd : Jvm.ClassFile.Cond} {off : Int} {tgt : Nat} {x : Int32} (X : JOK K) (hd : decode (cby K.2.2.1) pc = .ok (.ifCond cd off, 3)) (ht : (pc : Int) + off = (tgt : Int)) (kt : icm cd x 0 = true → J K tgt env st h b) (kf : icm cd x 0 = false → J K (pc + 3) env st h b) : J K pc env (.int x :: st) h b := by
  obtain ⟨⟨p, l, e, R, s, m, args, below, meth, c⟩, ⟨Q, P⟩, ⟨own, ini, cc, ret, nL⟩, Rr⟩ := K
  intro H locs ls kc ks hH hL hl h1 h2
  cases cd with
  | eq => exact lv_if_eq X.1 X.2.1 hd ht (fun q => kt (by simp [icm, q]) H locs ls kc ks hH hL hl h1 h2) (fun q => kf (by simp [icm, q]) H locs ls kc ks hH hL hl h1 h2)
  | ne => exact lv_if_ne X.1 X.2.1 hd ht (fun q => kt (by simp [icm, q]) H locs ls kc ks hH hL hl h1 h2) (fun q => kf (by simp [icm, q]) H locs ls kc ks hH hL hl h1 h2)
  | lt => exact lv_if_lt X.1 X.2.1 hd ht (fun q => kt (decide_eq_true q) H locs ls kc ks hH hL hl h1 h2) (fun q => kf (decide_eq_false q) H locs ls kc ks hH hL hl h1 h2)
  | ge => exact lv_if_ge X.1 X.2.1 hd ht (fun q => kt (decide_eq_true q) H locs ls kc ks hH hL hl h1 h2) (fun q => kf (decide_eq_false q) H locs ls kc ks hH hL hl h1 h2)
  | gt => exact lv_if_gt X.1 X.2.1 hd ht (fun q => kt (decide_eq_true q) H locs ls kc ks hH hL hl h1 h2) (fun q => kf (decide_eq_false q) H locs ls kc ks hH hL hl h1 h2)
  | le => exact lv_if_le X.1 X.2.1 hd ht (fun q => kt (decide_eq_true q) H locs ls kc ks hH hL hl h1 h2) (fun q => kf (decide_eq_false q) H locs ls kc ks hH hL hl h1 h2)
theorem J_ifnull {K : KT} {pc : Nat} {env : LE} {st : List Value} {h : FH} {b : Bd} {off : Int} {tgt : Nat} {r : Option Nat} (X : JOK K) (hd : decode (cby K.2.2.1) pc = .ok (.ifnull off, 3)) (ht : (pc : Int) + off = (tgt : Int)) (kt : r = none → J K tgt env st h b) (kf : r ≠ none → J K (pc + 3) env st h b) : J K pc env (va_rf r :: st) h b := by
  obtain ⟨⟨p, l, e, R, s, m, args, below, meth, c⟩, ⟨Q, P⟩, ⟨own, ini, cc, ret, nL⟩, Rr⟩ := K
  intro H locs ls kc ks hH hL hl h1 h2
  cases r with
  | none => exact lv_ifnullN X.1 X.2.1 hd ht (kt rfl H locs ls kc ks hH hL hl h1 h2)
  | some a => exact lv_ifnull X.1 X.2.1 hd (kf (by simp) H locs ls kc ks hH hL hl h1 h2)
theorem J_ifnonnull {K : KT} {pc : Nat} {env : LE} {st : List Value} {h : FH} {b : Bd} {off : Int} {tgt : Nat} {r : Option Nat} (X : JOK K) (hd : decode (cby K.2.2.1) pc = .ok (.ifnonnull off, 3)) (ht : (pc : Int) + off = (tgt : Int)) (kt : r ≠ none → J K tgt env st h b) (kf : r = none → J K (pc + 3) env st h b) : J K pc env (va_rf r :: st) h b := by
  obtain ⟨⟨p, l, e, R, s, m, args, below, meth, c⟩, ⟨Q, P⟩, ⟨own, ini, cc, ret, nL⟩, Rr⟩ := K
  intro H locs ls kc ks hH hL hl h1 h2
  cases r with
  | none => exact lv_ifnonnullN X.1 X.2.1 hd (kf rfl H locs ls kc ks hH hL hl h1 h2)
  | some a => exact lv_ifnonnull X.1 X.2.1 hd ht (kt (by simp) H locs ls kc ks hH hL hl h1 h2)
theorem J_ldc {K : KT} {pc : Nat} {env : LE} {st : List Value} {h : FH} {b : Bd} {i : Nat} {v : Int32} (X : JOK K) (hd : decode (cby K.2.2.1) pc = .ok (.ldc i, 2)) (hv : lkI (cow K.2.2.1) i = some v) (k : J K (pc + 2) env (.int v :: st) h b) : J K pc env st h b := by
  obtain ⟨⟨p, l, e, R, s, m, args, below, meth, c⟩, ⟨Q, P⟩, ⟨own, ini, cc, ret, nL⟩, Rr⟩ := K
  intro H locs ls kc ks hH hL hl h1 h2
  exact lv_ldc X.1 X.2.1 X.2.2.2.1 (X.2.2.2.2.1 _ (lkI_ok hv)) hd (k H locs ls kc ks hH hL hl h1 h2)
theorem J_ldcw {K : KT} {pc : Nat} {env : LE} {st : List Value} {h : FH} {b : Bd} {i : Nat} {v : Int32} (X : JOK K) (hd : decode (cby K.2.2.1) pc = .ok (.ldc_w i, 3)) (hv : lkI (cow K.2.2.1) i = some v) (k : J K (pc + 3) env (.int v :: st) h b) : J K pc env st h b := by
  obtain ⟨⟨p, l, e, R, s, m, args, below, meth, c⟩, ⟨Q, P⟩, ⟨own, ini, cc, ret, nL⟩, Rr⟩ := K
  intro H locs ls kc ks hH hL hl h1 h2
  exact lv_ldcw X.1 X.2.1 X.2.2.2.1 (X.2.2.2.2.1 _ (lkI_ok hv)) hd (k H locs ls kc ks hH hL hl h1 h2)
theorem J_ldc2 {K : KT} {pc : Nat} {env : LE} {st : List Value} {h : FH} {b : Bd} {i : Nat} {v : Int64} (X : JOK K) (hd : decode (cby K.2.2.1) pc = .ok (.ldc2_w i, 3)) (hv : lkL (cow K.2.2.1) i = some v) (k : J K (pc + 3) env (.long v :: st) h b) : J K pc env st h b := by
  obtain ⟨⟨p, l, e, R, s, m, args, below, meth, c⟩, ⟨Q, P⟩, ⟨own, ini, cc, ret, nL⟩, Rr⟩ := K
  intro H locs ls kc ks hH hL hl h1 h2
  exact lv_ldc2 X.1 X.2.1 X.2.2.2.1 (X.2.2.2.2.1 _ (lkL_ok hv)) hd (k H locs ls kc ks hH hL hl h1 h2)
theorem J_getf {K : KT} {pc : Nat} {env : LE} {st : List Value} {h : FH} {b : Bd} {idx a ci k : Nat} {fs : List Value} {v : Value} (X : JOK K) (hd : decode (cby K.2.2.1) pc = .ok (.getfield idx, 3)) (hk : lkF (cow K.2.2.1) idx = some (ci, k)) (ha : h.2 a = some (.inr (ci, fs))) (hv : fs[k]? = some v) (kk : J K (pc + 3) env (v :: st) h b) : J K pc env (.ref a :: st) h b := by
  obtain ⟨⟨p, l, e, R, s, m, args, below, meth, c⟩, ⟨Q, P⟩, ⟨own, ini, cc, ret, nL⟩, Rr⟩ := K
  intro H locs ls kc ks hH hL hl h1 h2
  obtain ⟨⟨C, T, N⟩, hr, hkN, hlk⟩ := lkF_ok hk
  obtain ⟨-, hws, -⟩ := cls_ok hr
  have hat := hH.at ha
  have hP : va_P P.1 vwCl [(a, .inr (ci, fs))] H := fun k9 x hx => by
    match k9, hx with
    | 0, hx => cases hx; exact hat
    | k9 + 1, hx => simp at hx
  rcases hlk with hlk | ⟨host, hlk⟩
  · exact va_get X.1 X.2.1 X.2.2.2.2.1 hws X.2.2.2.1 X.2.2.2.2.2.1.1 hP 0 rfl hr k hkN (X.2.2.2.2.1 _ hlk) (fun x hx => by rwa [(cls_ok hr).2.2.2.2.1 k hkN] at hx) hv hd (kk H locs ls kc ks hH hL hl h1 h2)
  · exact va_getN X.1 X.2.1 X.2.2.2.2.1 hws X.2.2.2.1 X.2.2.2.2.2.1.1 hP 0 rfl hr k hkN (va_Nw.use rfl (X.2.2.2.2.2.1.2.1 _ hlk)) (fun x hx => by rwa [(cls_ok hr).2.2.2.2.1 k hkN] at hx) hv hd (kk H locs ls kc ks hH hL hl h1 h2)
theorem J_putf {K : KT} {pc : Nat} {env : LE} {st : List Value} {h : FH} {b : Bd} {idx a ci k : Nat} {fs : List Value} {v : Value} (X : JOK K) (hd : decode (cby K.2.2.1) pc = .ok (.putfield idx, 3)) (hk : lkF (cow K.2.2.1) idx = some (ci, k)) (hfin : ffin ci k = false ∨ (cin K.2.2.1 = true ∧ cow K.2.2.1 = ci)) (ha : h.2 a = some (.inr (ci, fs))) (hv : k < fs.length) (hn : narrow (cty ci k) v = v) (hf : fits (cty ci k) v = true) (kk : J K (pc + 3) env st (hset h a (.inr (ci, fs.set k v))) b) : J K pc env (v :: .ref a :: st) h b := by
  obtain ⟨⟨p, l, e, R, s, m, args, below, meth, c⟩, ⟨Q, P⟩, ⟨own, ini, cc, ret, nL⟩, Rr⟩ := K
  intro H locs ls kc ks hH hL hl h1 h2
  obtain ⟨⟨C, T, N⟩, hr, hkN, hlk⟩ := lkF_ok hk
  obtain ⟨hnm0, hws, hty, hnm, hdecl, -⟩ := cls_ok hr
  have hat := hH.at ha
  obtain ⟨r, hr1, cell, q1, q2, q3, q4⟩ := hat
  cases hr.symm.trans hr1
  have hap := va_apart (own := C) (cl := vwCl) X.2.2.2.2.1 hws (cty ci) hty hnm X.2.2.2.2.2.1.1 hr
  obtain ⟨hS, hfc, kC, hkC, hkind⟩ := X.2.2.2.2.2.1.1.1 ci _ hr
  obtain ⟨cf, kf, fi, f, hi, hsl⟩ := hS k hkN
  have hlay := X.2.2.2.2.1 _ (hws _ (u_in_lay hkN))
  have hst := (u_facts hfc hkC (u_lays X.2.2.2.2.1 hws hkN) hi).1
  have hdk : (T k).1 = C := hdecl k hkN
  have hCn : C = cnm ci := hnm0
  have hi1 : s.fieldFound? (T k).1 (T k).2.1 (T k).2.2.1 = some (cf, kf, fi, f) := hi
  have hi2 : s.fieldFound? C (T k).2.1 (T k).2.2.1 = some (cf, kf, fi, f) := by rw [hdk] at hi1; exact hi1
  have fin : ∀ H' : Heap, H'[a]? = some (cell.setSlot (P.1.2 ci k) v) → H'.size = H.size → (∀ q, q ≠ a → H'[q]? = H[q]?) → fwH P s (hset h a (.inr (ci, fs.set k v))) H' := fun H' e1 e2 e3 =>
    hH.set ha ⟨_, hr, t_OB.to (V := updV (vp_V fs) k v) ⟨_, e1, q2, q3, t_set q4 hap hkN v⟩ (fun j _ => vp_updV_set hv v j)⟩ e2 e3
  have hloc : ∀ q ∈ locs ++ [⟨a, P.1.2 ci k⟩], P.2.1 ≤ q.base := fun q hq => by
    rcases List.mem_append.mp hq with z | z
    · exact hL q z
    · rw [List.mem_singleton.mp z]
      exact hH.ge ha
  by_cases hff : (T k).2.2.2 = true
  · have hfin : ini = true ∧ own = ci := by
      rcases hfin with z | z
      · have : ffin ci k = (T k).2.2.2 := by unfold ffin; rw [hr]
        rw [this, hff] at z
        cases z
      · exact z
    obtain ⟨hini, rfl⟩ := hfin
    unfold u_lay at hlay
    rw [if_pos hff] at hlay
    have hcf : m.cls = cf := by
      obtain ⟨_, _, c', _, _, _, -, -, hf', -, -, -, hown2, -⟩ := Cond.laysFinal_spec hlay
      have e1 : c' = cf := by have := hi.symm.trans hf'; simp at this; exact this.1.symm
      have hown4 : s.vm.findClass (T k).1 = some c' := hown2
      have hown3 : s.vm.findClass (cnm own) = some c' := by rw [hdk, hCn] at hown4; exact hown4
      rw [← e1]; exact Option.some.inj (X.2.2.2.1.symm.trans hown3)
    have h6 := u_fits hfc hkC hkind (Or.inr hlay) hi (hty k hkN) hn hf
    rcases hlk with hlk | ⟨host, hlk⟩
    · refine W.putFinK X.1 X.2.1 X.2.2.2.1 (X.2.2.2.2.1 _ hlk) hi2 hst hcf (X.2.2.2.2.2.2.1 hini) (by rw [q2]; exact h6) q1 q3 (by rw [hsl]; exact k2_hasslot (q4 k hkN)) rfl rfl hd fun H' e1 e2 e3 => ?_
      rw [hsl] at e1 ⊢
      exact kk H' _ ls kc ks (fin H' e1 e2 e3) hloc hl h1 h2
    · refine va_Wputf X.1 X.2.1 X.2.2.2.1 (va_Nw.use rfl (X.2.2.2.2.2.1.2.1 _ hlk)) hi2 hst (Or.inr ⟨hcf, X.2.2.2.2.2.2.1 hini⟩) q1 (by rw [q3]; exact fun z => by cases z) (by rw [hsl]; exact k2_hasslot (q4 k hkN)) h6.1 (by rw [q2, q3]; exact h6.2) rfl rfl hd ?_
      have ha2 : a < H.size := (Array.getElem?_eq_some_iff.mp q1).1
      rw [hsl]
      exact kk _ _ ls kc ks (fin _ (by simp [Array.getElem?_setIfInBounds, ha2]) (by simp) (fun q hq => by simp [Array.getElem?_setIfInBounds, Ne.symm hq])) hloc hl h1 h2
  · have hff : (T k).2.2.2 = false := by simpa using hff
    unfold u_lay at hlay
    rw [if_neg (by rw [hff]; decide)] at hlay
    have h6 := u_store hfc hkC hkind hlay hi (hty k hkN) hn hf
    rcases hlk with hlk | ⟨host, hlk⟩
    · refine W.putK X.1 X.2.1 (f := f) ⟨X.2.2.2.1, X.2.2.2.2.1 _ hlk, ⟨_, _, _, hi2⟩, hst⟩ (by rw [q2]; exact h6) q1 q3 (by rw [hsl]; exact k2_hasslot (q4 k hkN)) rfl rfl hd fun H' e1 e2 e3 => ?_
      rw [hsl] at e1 ⊢
      exact kk H' _ ls kc ks (fin H' e1 e2 e3) hloc hl h1 h2
    · refine va_WputK X.1 X.2.1 (f := f) X.2.2.2.1 (va_Nw.use rfl (X.2.2.2.2.2.1.2.1 _ hlk)) hi2 hst (by rw [q2]; exact h6) q1 q3 (by rw [hsl]; exact k2_hasslot (q4 k hkN)) rfl rfl hd fun H' e1 e2 e3 => ?_
      rw [hsl] at e1 ⊢
      exact kk H' _ ls kc ks (fin H' e1 e2 e3) hloc hl h1 h2
