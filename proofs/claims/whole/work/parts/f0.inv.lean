/-! THE CLASS, WHOLE: what lies where, told again when other cells change -/
def Agx (a m : Nat) (h h' : FH) : Prop := ∀ q, a ≤ q → q < a + m → h'.2 q = h.2 q
theorem Agx.of {a m lo n : Nat} {h h' : FH} (f : FrO lo n h h') (hx : a + m ≤ lo ∨ lo + n ≤ a) : Agx a m h h' := fun q h1 h2 => f.2 q (by omega)
theorem Agx.sub {a m a' m' : Nat} {h h' : FH} (f : Agx a m h h') (h1 : a ≤ a') (h2 : a' + m' ≤ a + m) : Agx a' m' h h' := fun q h3 h4 => f q (by omega) (by omega)
theorem Agx.tr {a m : Nat} {h h' h'' : FH} (f : Agx a m h h') (g : Agx a m h' h'') : Agx a m h h'' := fun q h1 h2 => (g q h1 h2).trans (f q h1 h2)
theorem StrC.ag {a : Nat} {n w v : Int32} {L D C K O : Nat → Int32} {h h' : FH} (hs : StrC a n w v L D C K O h) (f : Agx a 6 h h') : StrC a n w v L D C K O h' := by
  obtain ⟨h0, h1, h2, h3, h4, h5⟩ := hs
  refine ⟨?_, ?_, ?_, ?_, ?_, ?_⟩ <;> (rw [f _ (by omega) (by omega)]; assumption)
theorem SpcO.ag {p : Nat} {ver : Int32} {P X F G W : Nat → Int32} {T : Nat → Int64} {h h' : FH} (hs : SpcO p ver P X F G W T h) (f : Agx p 13 h h') : SpcO p ver P X F G W T h' := by
  obtain ⟨h0, h1, h2, h3, h4, h5, h6⟩ := hs
  refine ⟨?_, ?_, ?_, ?_, ?_, ?_, ?_⟩ <;> (rw [f _ (by omega) (by omega)]; assumption)
theorem SpP.ag {p : Nat} {s : Str} {w v : Nat} {h h' : FH} (x : SpP p s w v h) (f : Agx p 13 h h') : SpP p s w v h' := by
  obtain ⟨L, D, C, K, O, P, X, F, G, W, T, ver, h1, h2, h3, h4⟩ := x
  exact ⟨L, D, C, K, O, P, X, F, G, W, T, ver, h1.ag (f.sub (by omega) (by omega)), h2, h3.ag f, h4⟩
theorem BisP.ag {q : Nat} {P : Nat → Nat} {S : Nat → Str} {vv : Nat → Nat} {h h' : FH} (x : BisP q P S vv h) (f : Agx q 13 h h') : BisP q P S vv h' := by
  obtain ⟨Sf, NM, SE, CC, FV, SV, ⟨CL, ca, na, mc, NX, MV, RW, RE, FC, h0, h1, h2, h3, h4, h5, h6, h7, h8, h9, h10, h11, h12, h13⟩, k1, k2⟩ := x
  refine ⟨Sf, NM, SE, CC, FV, SV, ⟨CL, ca, na, mc, NX, MV, RW, RE, FC, ?_, ?_, ?_, ?_, ?_, ?_, ?_, ?_, ?_, ?_, ?_, ?_, ?_, h13⟩, k1, k2⟩ <;> (rw [f _ (by omega) (by omega)]; assumption)
theorem WrdO.ag {a : Nat} {mk sr df : Int32} {Sf : Nat → Option Nat} {LS : Nat → Nat → Int32} {SZ CR MK : Nat → Int32} {KY SK : Nat → Int64} {SS SV WD DF CN CV DV : Nat → Int32} {h h' : FH} (x : WrdO a mk sr df Sf LS SZ CR MK KY SK SS SV WD DF CN CV DV h) (f : Agx a 33 h h') : WrdO a mk sr df Sf LS SZ CR MK KY SK SS SV WD DF CN CV DV h' := by
  obtain ⟨h0, h1, h2, h3, h4, h5, h6, h7, h8, h9, h10, h11, h12, h13, h14, h15⟩ := x
  refine ⟨?_, ?_, ?_, fun i hi => ?_, ?_, ?_, ?_, ?_, ?_, ?_, ?_, ?_, ?_, ?_, ?_, ?_⟩
  · rw [f _ (by omega) (by omega)]; exact h0
  · rw [f _ (by omega) (by omega)]; exact h1
  · rw [f _ (by omega) (by omega)]; exact h2
  · rw [f _ (by omega) (by omega)]; exact h3 i hi
  all_goals (rw [f _ (by omega) (by omega)]; assumption)
theorem WrdP.ag {a n : Nat} {P : Nat → Nat} {S : Nat → Str} {vv : Nat → Nat} {h h' : FH} (x : WrdP a n P S vv h) (f : Agx a 33 h h') : WrdP a n P S vv h' := by
  obtain ⟨mk, sr, df, Sf, LS, SZ, CR, MK, KY, SK, SS, SV, WD, DF, CN, CV, DV, h1, h2⟩ := x
  exact ⟨mk, sr, df, Sf, LS, SZ, CR, MK, KY, SK, SS, SV, WD, DF, CN, CV, DV, h1.ag f, h2⟩
theorem WrdP.mono {a n n' : Nat} {P : Nat → Nat} {S : Nat → Str} {vv : Nat → Nat} {h : FH} (x : WrdP a n P S vv h) (hn : n ≤ n') : WrdP a n' P S vv h := by
  obtain ⟨mk, sr, df, Sf, LS, SZ, CR, MK, KY, SK, SS, SV, WD, DF, CN, CV, DV, h1, h2, h3, h4, h5⟩ := x
  exact ⟨mk, sr, df, Sf, LS, SZ, CR, MK, KY, SK, SS, SV, WD, DF, CN, CV, DV, h1, h2, h3, Nat.le_trans h4 hn, h5⟩
theorem NetP.ag {a : Nat} {N : Ntt} {h h' : FH} (x : NetP a N h) (f : Agx a 4 h h') : NetP a N h' := by
  obtain ⟨I, O, L, ⟨h0, h1, h2, h3⟩, h4⟩ := x
  refine ⟨I, O, L, ⟨?_, ?_, ?_, ?_⟩, h4⟩ <;> (rw [f _ (by omega) (by omega)]; assumption)
theorem UnfP.ag {a : Nat} {u : Unf} {h h' : FH} (x : UnfP a u h) (f : Agx a 12 h h') : UnfP a u h' := by
  obtain ⟨w, v, fd, L, D, C, K, O, PL, PO, TR, PA, TK, h1, h2, ⟨h3, h4, h5, h6, h7, h8⟩, h9⟩ := x
  refine ⟨w, v, fd, L, D, C, K, O, PL, PO, TR, PA, TK, h1.ag (f.sub (by omega) (by omega)), h2, ⟨?_, ?_, ?_, ?_, ?_, ?_⟩, h9⟩ <;> (rw [f _ (by omega) (by omega)]; assumption)
theorem LanO.ag {a : Nat} {n o k : Int32} {TX ST WT : Nat → Int32} {h h' : FH} (x : LanO a n o k TX ST WT h) (f : Agx a 10 h h') : LanO a n o k TX ST WT h' := by
  obtain ⟨h0, h1, h2, h3⟩ := x
  refine ⟨?_, ?_, ?_, ?_⟩ <;> (rw [f _ (by omega) (by omega)]; assumption)
def StrF (a : Nat) (s : Str) (w : Nat) (h : FH) : Prop := ∃ (v : Int32) (L D C K O : Nat → Int32), StrC a (nI s.1) (nI w) v L D C K O h ∧ RepS s L D C K
def StrX (a : Nat) (h : FH) : Prop := ∃ (n w v : Int32) (L D C K O : Nat → Int32), StrC a n w v L D C K O h
def LanT (a : Nat) (T : Nat → Nat) (n : Nat) (h : FH) : Prop := ∃ (o k m w v : Int32) (TX ST WT L D C K O : Nat → Int32), LanO a (nI n) o k TX ST WT h ∧ StrC (a + 1) m w v L D C K O h ∧ ∀ i, i < n → TX i = nI (T i)
theorem StrF.ag {a : Nat} {s : Str} {w : Nat} {h h' : FH} (x : StrF a s w h) (f : Agx a 6 h h') : StrF a s w h' := by
  obtain ⟨v, L, D, C, K, O, h1, h2⟩ := x
  exact ⟨v, L, D, C, K, O, h1.ag f, h2⟩
theorem StrX.ag {a : Nat} {h h' : FH} (x : StrX a h) (f : Agx a 6 h h') : StrX a h' := by
  obtain ⟨n, w, v, L, D, C, K, O, h1⟩ := x
  exact ⟨n, w, v, L, D, C, K, O, h1.ag f⟩
theorem LanT.ag {a : Nat} {T : Nat → Nat} {n : Nat} {h h' : FH} (x : LanT a T n h) (f : Agx a 10 h h') : LanT a T n h' := by
  obtain ⟨o, k, m, w, v, TX, ST, WT, L, D, C, K, O, h1, h2, h3⟩ := x
  exact ⟨o, k, m, w, v, TX, ST, WT, L, D, C, K, O, h1.ag f, h2.ag (f.sub (by omega) (by omega)), h3⟩
/-- saved structures, whether there are any, the net, the saved net, the number of conditions, the text and its length -/
abbrev Rst : Type := Sw × Bool × Ntt × Ntt × Nat × (Nat → Nat) × Nat
abbrev rsv (R : Rst) : Sw := R.1
abbrev rhs (R : Rst) : Bool := R.2.1
abbrev rnt (R : Rst) : Ntt := R.2.2.1
abbrev rns (R : Rst) : Ntt := R.2.2.2.1
abbrev rcd (R : Rst) : Nat := R.2.2.2.2.1
abbrev rtx (R : Rst) : Nat → Nat := R.2.2.2.2.2.1
abbrev rln (R : Rst) : Nat := R.2.2.2.2.2.2
def pX (x : Nat) : Nat → Nat := fun i => x + 1 + 13 * i
def RstC (x : Nat) (R : Rst) (h : FH) : Prop := ClsO x (b2i (rhs R)) (nI (rcd R)) h ∧ (∀ i, i < 2 → StrF (x + 27 + 6 * i) ((rsv R).1 i) ((rsv R).2 i) h) ∧ StrX (x + 39) h ∧ NetP (x + 91) (rnt R) h ∧ NetP (x + 95) (rns R) h ∧ (∃ u, UnfP (x + 99) u h) ∧ LanT (x + 111) (rtx R) (rln R) h
def DynC (x k m : Nat) (σ : Sw) (h : FH) : Prop := ∃ v : Nat → Nat, (∀ i, i < 2 → v i ≤ m) ∧ (∀ i, i < 2 → SpP (pX x i) (σ.1 i) (σ.2 i) (v i) h) ∧ BisP (x + 45) (pX x) σ.1 v h ∧ WrdP (x + 58) k (pX x) σ.1 v h
def InvC (x k : Nat) (σ : Sw) (R : Rst) (h : FH) : Prop := DynC x k (4 * k) σ h ∧ RstC x R h
theorem ClsO.ag {x : Nat} {i1 i2 : Int32} {h h' : FH} (hC : ClsO x i1 i2 h) (f : h'.2 x = h.2 x) : ClsO x i1 i2 h' := by
  unfold ClsO at hC ⊢
  rw [f]; exact hC
theorem RstC.ag {x : Nat} {R : Rst} {h h' : FH} (y : RstC x R h) (f : ∀ q, (q = x ∨ (x + 27 ≤ q ∧ q < x + 45) ∨ (x + 91 ≤ q ∧ q < x + 121)) → h'.2 q = h.2 q) : RstC x R h' := by
  obtain ⟨h1, h2, h3, h4, h5, ⟨u, h6⟩, h7⟩ := y
  exact ⟨h1.ag (f x (Or.inl rfl)), fun i hi => (h2 i hi).ag (fun q a b => f q (by omega)), h3.ag (fun q a b => f q (by omega)), h4.ag (fun q a b => f q (by omega)), h5.ag (fun q a b => f q (by omega)), ⟨u, h6.ag (fun q a b => f q (by omega))⟩, h7.ag (fun q a b => f q (by omega))⟩
theorem DynC.ag {x k m : Nat} {σ : Sw} {h h' : FH} (y : DynC x k m σ h) (f : ∀ q, ((x + 1 ≤ q ∧ q < x + 27) ∨ (x + 45 ≤ q ∧ q < x + 91)) → h'.2 q = h.2 q) : DynC x k m σ h' := by
  obtain ⟨v, h1, h2, h3, h4⟩ := y
  refine ⟨v, h1, fun i hi => (h2 i hi).ag (fun q a b => ?_), h3.ag (fun q a b => f q (by omega)), h4.ag (fun q a b => f q (by omega))⟩
  unfold pX at a b
  exact f q (by omega)
theorem DynC.mono {x k k' m m' : Nat} {σ : Sw} {h : FH} (y : DynC x k m σ h) (hk : k ≤ k') (hm : m ≤ m') : DynC x k' m' σ h := by
  obtain ⟨v, h1, h2, h3, h4⟩ := y
  exact ⟨v, fun i hi => Nat.le_trans (h1 i hi) hm, h2, h3, h4.mono hk⟩
theorem InvC.ag {x k : Nat} {σ : Sw} {R : Rst} {h h' : FH} (y : InvC x k σ R h) (f : Agx x 121 h h') : InvC x k σ R h' := ⟨y.1.ag (fun q a => f q (by omega) (by omega)), y.2.ag (fun q a => f q (by omega) (by omega))⟩
theorem InvC.mono {x k k' : Nat} {σ : Sw} {R : Rst} {h : FH} (y : InvC x k σ R h) (hk : k ≤ k') : InvC x k' σ R h := ⟨y.1.mono hk (by omega), y.2⟩
