/-! THE REFERENCE, WHOLE: its invariant -/
def SavM (m : Nat) (τ : Sw) (h : FH) : Prop := (∃ f, h.2 (m + 14) = some (aR (.object (cnm 9)) 2 f) ∧ ∀ i, i < 2 → f i = some (m + 15 + 6 * i)) ∧ ∀ i, i < 2 → MStP (m + 15 + 6 * i) (τ.1 i) (τ.2 i) h
def NetS (m : Nat) (N : Ntt) (h : FH) : Prop := ∃ IN ON LB : Nat → Int32, h.2 (m + 48) = some (aI 6 IN) ∧ h.2 (m + 49) = some (aI 6 ON) ∧ h.2 (m + 50) = some (aI 6 LB) ∧ RepN N IN ON LB
def TxtM (m : Nat) (T : Nat → Nat) (n : Nat) (h : FH) : Prop := ∃ TX : Nat → Int32, h.2 (m + 62) = some (aI 40 TX) ∧ ∀ i, i < n → TX i = nI (T i)
def IntM (I : Nat → Int32) (R : Rst) : Prop := I 2 = b2i (rhs R) ∧ (I 16 = nI (rnt R).1 ∧ I 17 = nI (rnt R).2.1 ∧ I 18 = nI (rnt R).2.2.1) ∧ (I 22 = nI (rns R).1 ∧ I 23 = nI (rns R).2.1 ∧ I 24 = nI (rns R).2.2.1) ∧ I 31 = nI (rcd R) ∧ I 38 = nI (rln R)
def RstM (m : Nat) (R : Rst) (cap : Nat → Nat) (h : FH) : Prop := SavM m (rsv R) h ∧ (∃ RN FM MN MT CL NX ME, MScr m RN FM MN MT CL NX ME h) ∧ (∃ pp Lf, LW m pp cap Lf h) ∧ (∃ fr, h.2 (m + 43) = some (aL 8 fr)) ∧ (∃ df, h.2 (m + 44) = some (aI 8 df)) ∧ NetA m (rnt R) h ∧ NetS m (rns R) h ∧ (∃ u, UnfR m u h) ∧ TxtM m (rtx R) (rln R) h
def InvM (m : Nat) (σ : Sw) (R : Rst) (cap : Nat → Nat) (h : FH) : Prop := ∃ I, MB m I σ.1 σ.2 h ∧ IntM I R ∧ RstM m R cap h
theorem MStP.ag {a : Nat} {s : Str} {w : Nat} {h h' : FH} (x : MStP a s w h) (f : Agx a 6 h h') : MStP a s w h' := by
  obtain ⟨L, D, C, K, V, ⟨h0, h1, h2, h3, h4, h5⟩, hr⟩ := x
  refine ⟨L, D, C, K, V, ⟨?_, ?_, ?_, ?_, ?_, ?_⟩, hr⟩ <;> (rw [f _ (by omega) (by omega)]; assumption)
theorem MB.ag {m : Nat} {I : Nat → Int32} {S : Nat → Str} {w : Nat → Nat} {h h' : FH} (x : MB m I S w h) (f : Agx m 14 h h') : MB m I S w h' := by
  obtain ⟨h0, ⟨fa, h1, h2⟩, h3⟩ := x
  exact ⟨by rw [f _ (by omega) (by omega)]; exact h0, ⟨fa, by rw [f _ (by omega) (by omega)]; exact h1, h2⟩, fun i hi => (h3 i hi).ag (fun q a b => f q (by omega) (by omega))⟩
theorem SavM.ag {m : Nat} {τ : Sw} {h h' : FH} (x : SavM m τ h) (f : Agx (m + 14) 13 h h') : SavM m τ h' := by
  obtain ⟨⟨fa, h1, h2⟩, h3⟩ := x
  exact ⟨⟨fa, by rw [f _ (by omega) (by omega)]; exact h1, h2⟩, fun i hi => (h3 i hi).ag (fun q a b => f q (by omega) (by omega))⟩
theorem MScr.ag {m : Nat} {RN FM MN MT CL NX ME : Nat → Int32} {h h' : FH} (x : MScr m RN FM MN MT CL NX ME h) (f : Agx (m + 27) 7 h h') : MScr m RN FM MN MT CL NX ME h' := by
  obtain ⟨s27, s28, s29, s30, s31, s32, s33⟩ := x
  refine ⟨?_, ?_, ?_, ?_, ?_, ?_, ?_⟩ <;> (rw [f _ (by omega) (by omega)]; assumption)
theorem NetA.ag {m : Nat} {N : Ntt} {h h' : FH} (x : NetA m N h) (f : Agx (m + 45) 3 h h') : NetA m N h' := by
  obtain ⟨IN, ON, LB, h1, h2, h3, h4⟩ := x
  refine ⟨IN, ON, LB, ?_, ?_, ?_, h4⟩ <;> (rw [f _ (by omega) (by omega)]; assumption)
theorem NetS.ag {m : Nat} {N : Ntt} {h h' : FH} (x : NetS m N h) (f : Agx (m + 48) 3 h h') : NetS m N h' := by
  obtain ⟨IN, ON, LB, h1, h2, h3, h4⟩ := x
  refine ⟨IN, ON, LB, ?_, ?_, ?_, h4⟩ <;> (rw [f _ (by omega) (by omega)]; assumption)
theorem UnfR.ag {m : Nat} {u : Unf} {h h' : FH} (x : UnfR m u h) (f : Agx (m + 51) 11 h h') : UnfR m u h' := by
  obtain ⟨w, L, D, C, K, V, PL, PO, TR, RW, TK, ⟨s0, s1, s2, s3, s4, s5⟩, hr, ⟨v1, v2, v3, v4, v5⟩, hR⟩ := x
  refine ⟨w, L, D, C, K, V, PL, PO, TR, RW, TK, ⟨?_, ?_, ?_, ?_, ?_, ?_⟩, hr, ⟨?_, ?_, ?_, ?_, ?_⟩, hR⟩ <;> (rw [f _ (by omega) (by omega)]; assumption)
theorem TxtM.ag {m n : Nat} {T : Nat → Nat} {h h' : FH} (x : TxtM m T n h) (f : h'.2 (m + 62) = h.2 (m + 62)) : TxtM m T n h' := by
  obtain ⟨TX, h1, h2⟩ := x
  exact ⟨TX, f.trans h1, h2⟩
theorem RstM.top {m : Nat} {R : Rst} {cap : Nat → Nat} {h : FH} (x : RstM m R cap h) : m + 63 ≤ h.1 := by
  obtain ⟨-, -, ⟨pp, Lf, -, -, h3⟩, -⟩ := x
  exact h3.1
theorem RstM.cap {m : Nat} {R : Rst} {cap : Nat → Nat} {h : FH} (x : RstM m R cap h) : ∀ y, y < 2 → capB (cap y) := by
  obtain ⟨-, -, ⟨pp, Lf, -, h2, -⟩, -⟩ := x
  exact fun y hy => (h2 y hy).2
/-- what lies behind the object and its structures stays when those cells stay -/
theorem RstM.ag {m : Nat} {R : Rst} {cap : Nat → Nat} {h h' : FH} (x : RstM m R cap h) (ht : h.1 ≤ h'.1) (f : ∀ q, m + 14 ≤ q → q < h.1 → h'.2 q = h.2 q) : RstM m R cap h' := by
  have hp := x.top
  obtain ⟨h1, ⟨RN, FM, MN, MT, CL, NX, ME, h2⟩, ⟨pp, Lf, h3⟩, ⟨fr, h4⟩, ⟨df, h5⟩, h6, h7, ⟨u, h8⟩, h9⟩ := x
  exact ⟨h1.ag (fun q a b => f q (by omega) (by omega)), ⟨RN, FM, MN, MT, CL, NX, ME, h2.ag (fun q a b => f q (by omega) (by omega))⟩, ⟨pp, Lf, h3.eqv ht (fun q a b => f q (by omega) a)⟩, ⟨fr, (f _ (by omega) (by omega)).trans h4⟩, ⟨df, (f _ (by omega) (by omega)).trans h5⟩, h6.ag (fun q a b => f q (by omega) (by omega)), h7.ag (fun q a b => f q (by omega) (by omega)), ⟨u, h8.ag (fun q a b => f q (by omega) (by omega))⟩, h9.ag (f _ (by omega) (by omega))⟩
theorem InvM.ag {m : Nat} {σ : Sw} {R : Rst} {cap : Nat → Nat} {h h' : FH} (x : InvM m σ R cap h) (ht : h.1 ≤ h'.1) (f : ∀ q, m ≤ q → q < h.1 → h'.2 q = h.2 q) : InvM m σ R cap h' := by
  obtain ⟨I, h1, h2, h3⟩ := x
  have hp := h3.top
  exact ⟨I, h1.ag (fun q a b => f q a (by omega)), h2, h3.ag ht (fun q a b => f q (by omega) b)⟩
/-- the room that is left for r calls more -/
def BudM (c : Nat → Nat) (r : Nat) (b : Bd) : Prop := 246 * r + (65536 - (c 0 + c 1)) ≤ b.1 ∧ 1927 * r + 34 * (65536 - (c 0 + c 1)) ≤ b.2
theorem BudM.less {c : Nat → Nat} {r : Nat} {b : Bd} (x : BudM c (r + 1) b) : BudM c r b := ⟨by have := x.1; omega, by have := x.2; omega⟩
theorem capB_le {c : Nat} (h : capB c) : c ≤ 32768 := by
  obtain ⟨j, hj, rfl⟩ := h
  have : 2 ^ j ≤ 2 ^ 10 := pow_le hj
  omega
