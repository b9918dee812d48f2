/-! THE FLAT WORLD: a heap is a partial function from addresses to cells (an array with its type, or an object of a class of vwCl with its fields); what the machine's heap must hold for it -/
abbrev FC : Type := (FieldType × vp_A) ⊕ (Nat × List Value)
abbrev FH : Type := Nat × (Nat → Option FC)
abbrev FPr : Type := va_G × Nat × Nat × Nat × (Nat → Int32) × Nat
abbrev Bd : Type := Nat × Nat
abbrev LE : Type := List (Option Value)
def wtab : Nat → Int32 := fun j => match j with | 0 => 1 | 1 => 9 | 2 => 81 | 3 => 729 | 4 => 6561 | _ => 59049
def hset (h : FH) (a : Nat) (c : FC) : FH := (h.1, fun q => if q = a then some c else h.2 q)
def hnew (h : FH) (c : FC) : FH := (h.1 + 1, fun q => if q = h.1 then some c else h.2 q)
def fwAt (D : va_G) (U : State) (H : Heap) (a : Nat) (c : FC) : Prop := match c with
  | .inl (ty, x) => ∃ cA : ClassId, H[a]? = some (vp_cell cA x) ∧ ArrOfT U cA ty ∧ va_RA U cA ty
  | .inr (ci, fs) => ∃ r : vw_C, vwCl[ci]? = some r ∧ t_OB a (D.1 ci) r.2.2 (D.2 ci) H (vp_V fs)
theorem fwAt.moved {D : va_G} {u U : State} {H : Heap} {a : Nat} {c : FC} (hvm : u.vm.Alike U.vm) (h : fwAt D u H a c) : fwAt D U H a c := by
  match c, h with
  | .inl (ty, x), h =>
    obtain ⟨cA, h1, h2, h3⟩ := h
    exact ⟨cA, h1, arrOfT_moved hvm h2, h3.moved hvm⟩
  | .inr (ci, fs), h => exact h
theorem fwAt.kept {D : va_G} {U : State} {H H1 : Heap} {a : Nat} {c : FC} (hq : H1[a]? = H[a]?) (h : fwAt D U H a c) : fwAt D U H1 a c := by
  match c, h with
  | .inl (ty, x), h =>
    obtain ⟨cA, h1, h2⟩ := h
    exact ⟨cA, hq.trans h1, h2⟩
  | .inr (ci, fs), h =>
    obtain ⟨r, h1, h2⟩ := h
    exact ⟨r, h1, h2.kept hq⟩
theorem fwAt.lt {D : va_G} {U : State} {H : Heap} {a : Nat} {c : FC} (h : fwAt D U H a c) : a < H.size := by
  match c, h with
  | .inl (ty, x), h =>
    obtain ⟨cA, h1, h2⟩ := h
    exact (Array.getElem?_eq_some_iff.mp h1).1
  | .inr (ci, fs), h =>
    obtain ⟨r, h1, cell, h2, -⟩ := h
    exact (Array.getElem?_eq_some_iff.mp h2).1
def fwH (P : FPr) (U : State) (h : FH) (H : Heap) : Prop :=
  H.size = h.1 ∧ P.2.1 ≤ h.1 ∧ (∀ (a : Nat) (c : FC), h.2 a = some c → P.2.1 ≤ a ∧ fwAt P.1 U H a c) ∧ (P.2.2.1 < P.2.1 ∧ va_X P.2.2.1 P.2.2.2.1 P.2.2.2.2.1 U H) ∧
  va_Z "EventStructures$Bisimulation" "WEIGHTS" "[I" (.ref P.2.2.2.2.2) (fun q => P.2.1 ≤ q) U H ∧ va_T .int P.2.2.2.2.2 6 (fun j => .int (wtab j)) (fun q => P.2.1 ≤ q) U H
theorem fwH.moved {P : FPr} {u U : State} {h : FH} {H : Heap} (hvm : u.vm.Alike U.vm) (w : fwH P u h H) : fwH P U h H := by
  obtain ⟨h1, h2, h3, ⟨h4, h5⟩, h6, h7⟩ := w
  exact ⟨h1, h2, fun a c hc => ⟨(h3 a c hc).1, (h3 a c hc).2.moved hvm⟩, ⟨h4, h5.moved hvm⟩, h6.moved hvm, h7.moved hvm⟩
theorem fwH.at {P : FPr} {U : State} {h : FH} {H : Heap} (w : fwH P U h H) {a : Nat} {c : FC} (hc : h.2 a = some c) : fwAt P.1 U H a c := (w.2.2.1 a c hc).2
theorem fwH.ge {P : FPr} {U : State} {h : FH} {H : Heap} (w : fwH P U h H) {a : Nat} {c : FC} (hc : h.2 a = some c) : P.2.1 ≤ a := (w.2.2.1 a c hc).1
theorem fwH.lt {P : FPr} {U : State} {h : FH} {H : Heap} (w : fwH P U h H) {a : Nat} {c : FC} (hc : h.2 a = some c) : a < h.1 := by
  have := (w.at hc).lt
  rw [w.1] at this
  exact this
/-- a store: one cell has changed -/
theorem fwH.set {P : FPr} {U : State} {h : FH} {H H1 : Heap} {a : Nat} {c0 c : FC} (w : fwH P U h H) (ha : h.2 a = some c0) (hc : fwAt P.1 U H1 a c) (hz : H1.size = H.size) (oq : ∀ q : Nat, q ≠ a → H1[q]? = H[q]?) : fwH P U (hset h a c) H1 := by
  have hge := w.ge ha
  obtain ⟨h1, h2, h3, ⟨h4, h5⟩, h6, h7⟩ := w
  have old : ∀ q : Nat, q < H.size → ¬ P.2.1 ≤ q → H1[q]? = H[q]? := fun q _ hq => oq q (fun e => hq (e ▸ hge))
  refine ⟨hz.trans h1, h2, fun q c' hq => ?_, ⟨h4, h5.kept (oq _ (by omega))⟩, h6.kept old, h7.kept old⟩
  by_cases e : q = a
  · subst e
    have : some c = some c' := by simpa [hset] using hq
    cases this
    exact ⟨hge, hc⟩
  · have : h.2 q = some c' := by simpa [hset, e] using hq
    exact ⟨(h3 q c' this).1, (h3 q c' this).2.kept (oq q e)⟩
/-- a new cell -/
theorem fwH.push {P : FPr} {U : State} {h : FH} {H H1 : Heap} {c : FC} (w : fwH P U h H) (hc : fwAt P.1 U H1 h.1 c) (hz : H1.size = h.1 + 1) (oq : ∀ q : Nat, q < h.1 → H1[q]? = H[q]?) : fwH P U (hnew h c) H1 := by
  have hlt : ∀ {a : Nat} {c : FC}, h.2 a = some c → a < h.1 := fun hc => w.lt hc
  obtain ⟨h1, h2, h3, ⟨h4, h5⟩, h6, h7⟩ := w
  have old : ∀ q : Nat, q < H.size → ¬ P.2.1 ≤ q → H1[q]? = H[q]? := fun q hq _ => oq q (by omega)
  refine ⟨hz, Nat.le_succ_of_le h2, fun q c' hq => ?_, ⟨h4, h5.kept (oq _ (by omega))⟩, h6.kept old, h7.kept old⟩
  by_cases e : q = h.1
  · subst e
    have : some c = some c' := by simpa [hnew] using hq
    cases this
    exact ⟨h2, hc⟩
  · have : h.2 q = some c' := by simpa [hnew, e] using hq
    exact ⟨(h3 q c' this).1, (h3 q c' this).2.kept (oq q (hlt this))⟩
/-- as va_AO, of arrays whose elements are arrays -/
def xAOA (ty : FieldType) (U : State) : Prop := (Cond.arrayOver (.array ty)).before #[] U = true
theorem xAOA.moved {ty : FieldType} {u U : State} (hvm : u.vm.Alike U.vm) (h : xAOA ty u) : xAOA ty U := by
  obtain ⟨comp, c, k, h1, h2, h3, h4, h5⟩ := arrayOverA_spec h
  obtain ⟨k', hk', he⟩ := hvm.2.2 _ _ h3
  have hi : (U.vm.classes.findIdx? fun (x : Class) => match x.kind with | .array component _ => component == comp | _ => false) = some c := by
    rw [hvm.findIdx?_eq _ (fun _ => rfl)]
    exact h2
  have hkind : k'.kind = .array comp (.array ty) := by rw [he]; exact h4
  have f1 : U.vm.findClass (FieldType.array ty).toString = some comp := by rw [hvm.findClass]; exact h1
  have f2 : U.vm.findClass ("[" ++ (FieldType.array ty).toString) = some c := by rw [hvm.findClass]; exact h5
  unfold xAOA Cond.before Cond.holds
  simp only [Cond.value]
  rw [f1, Option.bind_some]
  refine (congrArg (fun o : Option Nat => (o.bind (fun c => (U.vm.classes[c]?).map fun (k : Class) => match k.kind with | .array _ t => decide (t = FieldType.array ty) && decide (U.vm.findClass ("[" ++ (FieldType.array ty).toString) = some c) | _ => false) == some true)) hi).trans ?_
  simp [hk', hkind, f2]
/-- what of the tables no list of words bears -/
def fwV (P : FPr) (U : State) : Prop := va_K P.1 vwCl [] U ∧ (∀ w ∈ NWL, va_Nw w U) ∧ (va_AO RX3 U ∧ va_AO RX8 U ∧ va_AO RX9 U) ∧ xAOA .int U
theorem NWL_kind : ∀ w ∈ NWL, (∃ (a : String) (i : Nat) (b n d h : String), w = Cond.fieldLinkNest a i b n d h) ∨ ∃ (a : String) (i : Nat) (x : MethodName) (h : String), w = Cond.methodLinkNest a i x h := by
  unfold NWL
  repeat (first | exact (fun _ h => absurd h List.not_mem_nil) | refine List.forall_mem_cons.mpr ⟨Or.inl ⟨_, _, _, _, _, _, rfl⟩, ?_⟩ | refine List.forall_mem_cons.mpr ⟨Or.inr ⟨_, _, _, _, rfl⟩, ?_⟩)
theorem fwV.warm {P : FPr} {s U : State} (hW : s.WarmedH U.vm) (h : fwV P s) : fwV P U := by
  obtain ⟨h1, h2, ⟨h3, h4, h5⟩, h6⟩ := h
  refine ⟨h1.moved hW.alike, fun w hw => ?_, ⟨h3.moved hW.alike, h4.moved hW.alike, h5.moved hW.alike⟩, h6.moved hW.alike⟩
  have h := h2 w hw
  rcases NWL_kind w hw with ⟨a, i, b, n, d, q, rfl⟩ | ⟨a, i, x, q, rfl⟩
  · exact va_Nw.warmF hW h
  · exact va_Nw.warmM hW h
theorem fwV.calling {P : FPr} {U : State} {g : JFrame} {mk : MethodId} {a : Array Value} (h : fwV P U) : fwV P (U.calling g mk a) := by
  obtain ⟨h1, h2, ⟨h3, h4, h5⟩, h6⟩ := h
  have e : U.vm.Alike (U.calling g mk a).vm := Vm.Alike.refl U.vm
  refine ⟨h1.moved e, fun w hw => ?_, ⟨h3.moved e, h4.moved e, h5.moved e⟩, h6.moved e⟩
  have h := h2 w hw
  rcases NWL_kind w hw with ⟨a, i, b, n, d, q, rfl⟩ | ⟨a, i, x, q, rfl⟩
  · exact va_Nw.same (by rfl) (by rfl) h
  · exact va_Nw.same (by rfl) (by rfl) h
theorem fwH.calling {P : FPr} {U : State} {h : FH} {H : Heap} {g : JFrame} {mk : MethodId} {a : Array Value} (w : fwH P U h H) : fwH P (U.calling g mk a) h H := w.moved (Vm.Alike.refl U.vm)
/-! the locals, in their order -/
def elg : LE → Nat → Option Value
  | [], _ => none
  | v :: _, 0 => v
  | _ :: t, n + 1 => elg t n
def lclr : Option Value → Option Value
  | some (.long _) => none
  | some (.double _) => none
  | o => o
def est1 : LE → Nat → Value → LE
  | [], _, _ => []
  | _ :: t, 0, v => some v :: t
  | w :: t, n + 1, v => (match n with | 0 => lclr w | _ + 1 => w) :: est1 t n v
def est2 : LE → Nat → Value → LE
  | [], _, _ => []
  | _ :: [], 0, v => [some v]
  | _ :: _ :: t, 0, v => some v :: none :: t
  | w :: t, n + 1, v => (match n with | 0 => lclr w | _ + 1 => w) :: est2 t n v
def asl : Nat → LE → List (Nat × Value)
  | _, [] => []
  | k, some v :: t => (k, v) :: asl (k + 1) t
  | k, none :: t => asl (k + 1) t
theorem asl_mem : ∀ (t : LE) (k i : Nat) (v : Value), elg t i = some v → (k + i, v) ∈ asl k t
  | [], _, _, _, h => by simp [elg] at h
  | some w :: t, k, 0, v, h => by
    simp only [elg, Option.some.injEq] at h
    subst h
    exact List.mem_cons_self
  | none :: t, k, 0, v, h => by simp [elg] at h
  | some w :: t, k, i + 1, v, h => by
    have := asl_mem t (k + 1) i v h
    rw [show k + 1 + i = k + (i + 1) by omega] at this
    exact List.mem_cons_of_mem _ this
  | none :: t, k, i + 1, v, h => by
    have := asl_mem t (k + 1) i v h
    rw [show k + 1 + i = k + (i + 1) by omega] at this
    exact this
theorem asl_inv : ∀ (t : LE) (k : Nat) (q : Nat × Value), q ∈ asl k t → ∃ i, q.1 = k + i ∧ elg t i = some q.2
  | [], _, _, h => absurd h List.not_mem_nil
  | some w :: t, k, q, h => by
    rcases List.mem_cons.mp h with rfl | h
    · exact ⟨0, rfl, rfl⟩
    · obtain ⟨i, h1, h2⟩ := asl_inv t (k + 1) q h
      exact ⟨i + 1, by omega, h2⟩
  | none :: t, k, q, h => by
    obtain ⟨i, h1, h2⟩ := asl_inv t (k + 1) q h
    exact ⟨i + 1, by omega, h2⟩
theorem lclr_some {w : Option Value} {x : Value} (h : lclr w = some x) : w = some x ∧ x.category = 1 := by
  cases w with
  | none => simp [lclr] at h
  | some y => cases y <;> simp [lclr] at h <;> subst h <;> simp [Value.category]
theorem est1_get : ∀ (t : LE) (i j : Nat) (v w : Value), elg (est1 t i v) j = some w → (j = i ∧ w = v) ∨ (j ≠ i ∧ elg t j = some w ∧ ¬ (j + 1 = i ∧ w.category = 2))
  | [], _, _, _, _, h => by simp [est1, elg] at h
  | u :: t, 0, 0, v, w, h => by simp [est1, elg] at h; exact Or.inl ⟨rfl, h.symm⟩
  | u :: t, 0, j + 1, v, w, h => Or.inr ⟨by omega, h, by omega⟩
  | u :: t, 1, 0, v, w, h => by
    obtain ⟨h1, h2⟩ := lclr_some (w := u) h
    exact Or.inr ⟨by omega, h1, by omega⟩
  | u :: t, n + 2, 0, v, w, h => Or.inr ⟨by omega, h, by omega⟩
  | u :: t, n + 1, j + 1, v, w, h => by
    rcases est1_get t n j v w h with ⟨h1, h2⟩ | ⟨h1, h2, h3⟩
    · exact Or.inl ⟨by omega, h2⟩
    · exact Or.inr ⟨by omega, h2, fun q => h3 ⟨by omega, q.2⟩⟩
theorem est2_get : ∀ (t : LE) (i j : Nat) (v w : Value), elg (est2 t i v) j = some w → (j = i ∧ w = v) ∨ (j ≠ i ∧ j ≠ i + 1 ∧ elg t j = some w ∧ ¬ (j + 1 = i ∧ w.category = 2))
  | [], _, _, _, _, h => by simp [est2, elg] at h
  | u :: [], 0, 0, v, w, h => by simp [est2, elg] at h; exact Or.inl ⟨rfl, h.symm⟩
  | u :: [], 0, j + 1, v, w, h => by simp [est2, elg] at h
  | u :: u2 :: t, 0, 0, v, w, h => by simp [est2, elg] at h; exact Or.inl ⟨rfl, h.symm⟩
  | u :: u2 :: t, 0, 1, v, w, h => by simp [est2, elg] at h
  | u :: u2 :: t, 0, j + 2, v, w, h => Or.inr ⟨by omega, by omega, h, by omega⟩
  | u :: [], 1, 0, v, w, h => by
    obtain ⟨h1, h2⟩ := lclr_some (w := u) h
    exact Or.inr ⟨by omega, by omega, h1, by omega⟩
  | u :: u2 :: t, 1, 0, v, w, h => by
    obtain ⟨h1, h2⟩ := lclr_some (w := u) h
    exact Or.inr ⟨by omega, by omega, h1, by omega⟩
  | u :: [], n + 2, 0, v, w, h => Or.inr ⟨by omega, by omega, h, by omega⟩
  | u :: u2 :: t, n + 2, 0, v, w, h => Or.inr ⟨by omega, by omega, h, by omega⟩
  | u :: [], n + 1, j + 1, v, w, h => by simp [est2, elg] at h
  | u :: u2 :: t, n + 1, j + 1, v, w, h => by
    rcases est2_get (u2 :: t) n j v w h with ⟨h1, h2⟩ | ⟨h1, h2, h3, h4⟩
    · exact Or.inl ⟨by omega, h2⟩
    · exact Or.inr ⟨by omega, by omega, h3, fun q => h4 ⟨by omega, q.2⟩⟩
theorem le_sub {ls : Array Slot} {nL : Nat} {l l' : List (Nat × Value)} (h : lv_has ls nL l) (hs : ∀ q ∈ l', q ∈ l) : lv_has ls nL l' := ⟨h.1, h.2.1, fun q hq => h.2.2 q (hs q hq)⟩
theorem le_st1 {ls : Array Slot} {nL : Nat} {env : LE} {i : Nat} {v : Value} (h : lv_has ls nL ((i, v) :: (asl 0 env).filter (fun q => !(q.1 == i) && !(q.1 + 1 == i && q.2.category == 2)))) : lv_has ls nL (asl 0 (est1 env i v)) := by
  refine le_sub h fun q hq => ?_
  obtain ⟨j, h1, h2⟩ := asl_inv _ _ _ hq
  rw [Nat.zero_add] at h1
  rcases est1_get env i j v q.2 h2 with ⟨h3, h4⟩ | ⟨h3, h4, h5⟩
  · rw [show q = (i, v) from Prod.ext (h1.trans h3) h4]
    exact List.mem_cons_self
  · have hm := asl_mem env 0 j q.2 h4
    rw [Nat.zero_add, ← h1] at hm
    refine List.mem_cons_of_mem _ (List.mem_filter.mpr ⟨hm, ?_⟩)
    rw [← h1] at h3 h5
    simp only [Bool.and_eq_true, Bool.not_eq_true', beq_eq_false_iff_ne, ne_eq, Bool.and_eq_false_iff]
    refine ⟨h3, ?_⟩
    by_cases e : q.1 + 1 = i
    · exact Or.inr fun z => h5 ⟨e, z⟩
    · exact Or.inl e
theorem le_st2 {ls : Array Slot} {nL : Nat} {env : LE} {i : Nat} {v : Value} (h : lv_has ls nL ((i, v) :: (asl 0 env).filter (fun q => !(q.1 == i) && (!(q.1 == i + 1) && !(q.1 + 1 == i && q.2.category == 2))))) : lv_has ls nL (asl 0 (est2 env i v)) := by
  refine le_sub h fun q hq => ?_
  obtain ⟨j, h1, h2⟩ := asl_inv _ _ _ hq
  rw [Nat.zero_add] at h1
  rcases est2_get env i j v q.2 h2 with ⟨h3, h4⟩ | ⟨h3, h3', h4, h5⟩
  · rw [show q = (i, v) from Prod.ext (h1.trans h3) h4]
    exact List.mem_cons_self
  · have hm := asl_mem env 0 j q.2 h4
    rw [Nat.zero_add, ← h1] at hm
    refine List.mem_cons_of_mem _ (List.mem_filter.mpr ⟨hm, ?_⟩)
    rw [← h1] at h3 h3' h5
    simp only [Bool.and_eq_true, Bool.not_eq_true', beq_eq_false_iff_ne, ne_eq, Bool.and_eq_false_iff]
    refine ⟨h3, h3', ?_⟩
    by_cases e : q.1 + 1 = i
    · exact Or.inr fun z => h5 ⟨e, z⟩
    · exact Or.inl e
theorem le_at {ls : Array Slot} {nL : Nat} {env : LE} {i : Nat} {v : Value} (h : lv_has ls nL (asl 0 env)) (he : elg env i = some v) : ls[i]? = some (.val v) := by
  have := h.2.2 _ (asl_mem env 0 i v he)
  rwa [Nat.zero_add] at this
