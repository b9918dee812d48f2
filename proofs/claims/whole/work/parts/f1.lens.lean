/-! THE CLASS, WHOLE: one structure, one space, the equivalence, the words taken out and put back -/
theorem DynC.foc {x k m i : Nat} {σ : Sw} {h : FH} (y : DynC x k m σ h) (hi : i < 2) : ∃ v : Nat, v ≤ m ∧ SpP (x + 1 + 13 * i) (σ.1 i) (σ.2 i) v h ∧ ∀ (h' : FH) (w' : Nat), FrO (x + 1 + 13 * i) 13 h h' → SpP (x + 1 + 13 * i) (σ.1 i) w' v h' → DynC x k m (σ.1, va_up σ.2 i w') h' := by
  obtain ⟨v, h1, h2, h3, h4⟩ := y
  refine ⟨v i, h1 i hi, h2 i hi, fun h' w' f q => ⟨v, h1, fun j hj => ?_, ?_, ?_⟩⟩
  · by_cases e : j = i
    · subst e
      show SpP (pX x j) (σ.1 j) (va_up σ.2 j w' j) (v j) h'
      rw [up_1]
      exact q
    · show SpP (pX x j) (σ.1 j) (va_up σ.2 i w' j) (v j) h'
      rw [up_2 e]
      exact (h2 j hj).frame f (by unfold pX; omega)
  · exact h3.ag (Agx.of f (by omega))
  · exact h4.ag (Agx.of f (by omega))
def FrD (x i : Nat) (h h' : FH) : Prop := ∀ q, ((x + 1 ≤ q ∧ q < x + 27) ∨ (x + 45 ≤ q ∧ q < x + 91)) → (q < x + 2 + 13 * i ∨ x + 2 + 13 * i + 6 ≤ q) → h'.2 q = h.2 q
theorem FrD.of {x i : Nat} {h h' : FH} (f : FrO (x + 2 + 13 * i) 6 h h') : FrD x i h h' := fun q _ c => f.2 q c
theorem FrD.pre {x i lo n : Nat} {h h1 h' : FH} (g : FrD x i h1 h') (f : FrO lo n h h1) (hx : (x + 27 ≤ lo ∧ lo + n ≤ x + 45) ∨ x + 91 ≤ lo ∨ lo + n ≤ x + 1) : FrD x i h h' := fun q a c => (g q a c).trans (f.2 q (by omega))
theorem FrD.post {x i lo n : Nat} {h h1 h' : FH} (g : FrD x i h h1) (f : FrO lo n h1 h') (hx : (x + 27 ≤ lo ∧ lo + n ≤ x + 45) ∨ x + 91 ≤ lo ∨ lo + n ≤ x + 1) : FrD x i h h' := fun q a c => (f.2 q (by omega)).trans (g q a c)
theorem DynC.str {x k m i : Nat} {σ : Sw} {h : FH} (y : DynC x k m σ h) (hi : i < 2) (hk : m ≤ 4096) : ∃ (v : Nat) (L D C K O : Nat → Int32), v ≤ m ∧ StrC (x + 2 + 13 * i) (nI (σ.1 i).1) (nI (σ.2 i)) (nI v) L D C K O h ∧ RepS (σ.1 i) L D C K ∧ ∀ (h' : FH) (s' : Str) (w' v' : Nat) (L' D' C' K' O' : Nat → Int32), FrD x i h h' → StrC (x + 2 + 13 * i) (nI s'.1) (nI w') (nI v') L' D' C' K' O' h' → RepS s' L' D' C' K' → v < v' → v' ≤ v + 2 → DynC x k (m + 2) (setS σ i s' w') h' := by
  obtain ⟨v, h1, h2, h3, h4⟩ := y
  obtain ⟨L, D, C, K, O, P, X, F, G, W, T, ver, a1, a2, a3, a4, a5⟩ := h2 i hi
  have e2 : pX x i + 1 = x + 2 + 13 * i := by unfold pX; omega
  have e3 : pX x i = x + 1 + 13 * i := rfl
  rw [e2] at a1
  have z0 := h1 0 (by omega)
  have z1 := h1 1 (by omega)
  refine ⟨v i, L, D, C, K, O, h1 i hi, a1, a2, fun h' s' w' v' L' D' C' K' O' f b1 b2 b3 b4 => ⟨va_up v i v', fun j hj => ?_, fun j hj => ?_, ?_, ?_⟩⟩
  · by_cases e : j = i
    · subst e; rw [up_1]; have := h1 j hj; omega
    · rw [up_2 e]; have := h1 j hj; omega
  · by_cases e : j = i
    · subst e
      show SpP (pX x j) (va_up σ.1 j s' j) (va_up σ.2 j w' j) (va_up v j v' j) h'
      rw [up_1, up_1, up_1]
      have hv := h1 j hj
      refine ⟨L', D', C', K', O', P, X, F, G, W, T, ver, by rw [e2]; exact b1, b2, ?_, ?_, ?_⟩
      · obtain ⟨k0, k1, k2, k3, k4, k5, k6⟩ := a3
        rw [e3] at k0 k1 k2 k3 k4 k5 k6 ⊢
        refine ⟨?_, ?_, ?_, ?_, ?_, ?_, ?_⟩ <;> (rw [f _ (by omega) (by omega)]; assumption)
      · omega
      · intro q; exfalso; omega
    · show SpP (pX x j) (va_up σ.1 i s' j) (va_up σ.2 i w' j) (va_up v i v' j) h'
      rw [up_2 e, up_2 e, up_2 e]
      refine (h2 j hj).ag fun q c1 c2 => ?_
      unfold pX at c1 c2
      exact f q (by omega) (by omega)
  · obtain ⟨Sf, NM, SE, CC, FV, SV, c1, c2, c3⟩ := h3.ag (h' := h') (fun q c1 c2 => f q (by omega) (by omega))
    refine ⟨Sf, NM, SE, CC, FV, SV, c1, c2, fun kk hkk => ?_⟩
    obtain ⟨fv, sv, d1, d2, d3, d4, d5⟩ := c3 kk hkk
    have hi2 : i = 0 ∨ i = 1 := by omega
    rcases hi2 with rfl | rfl
    · have w0 : va_up v 0 v' 0 = v' := up_1
      have w1 : va_up v 0 v' 1 = v 1 := up_2 (by omega)
      rw [w0, w1]
      exact ⟨fv, sv, d1, d2, by omega, d4, fun q1 q2 => by exfalso; omega⟩
    · have w0 : va_up v 1 v' 1 = v' := up_1
      have w1 : va_up v 1 v' 0 = v 0 := up_2 (by omega)
      rw [w0, w1]
      exact ⟨fv, sv, d1, d2, d3, by omega, fun q1 q2 => by exfalso; omega⟩
  · obtain ⟨mk, sr, df, Sf, LS, SZ, CR, MK, KY, SK, SS, SV, WD, DF, CN, CV, DV, c1, c2, c3, c4, c5, c6, c7, d0, d1, c8, c9, c10, c11, c12⟩ := h4.ag (h' := h') (fun q c1 c2 => f q (by omega) (by omega))
    refine ⟨mk, sr, df, Sf, LS, SZ, CR, MK, KY, SK, SS, SV, WD, DF, CN, CV, DV, c1, c2, c3, c4, c5, c6, fun j hj => ?_, d0, d1, c8, c9, ?_, ?_, ?_⟩
    · obtain ⟨cv, e1, e9, e4⟩ := c7 j hj
      by_cases e : j = i
      · subst e
        have hv := h1 j hj
        rw [up_1]
        unfold verR at e9 ⊢
        exact ⟨cv, e1, by omega, fun q => by exfalso; omega⟩
      · rw [up_2 e]
        refine ⟨cv, e1, e9, fun q => ?_⟩
        rw [e4 q]
        refine congrArg nI (cW_cong fun y hy => ?_)
        have hy : y = 256 * j := hy
        have hy2 : y / 256 = j := by omega
        rw [hy2]
        exact (up_2 e).symm
    · unfold verR at c10 ⊢
      have hi2 : i = 0 ∨ i = 1 := by omega
      rcases hi2 with rfl | rfl
      · rw [up_1]; omega
      · rw [up_2 (by omega)]; exact c10
    · unfold verR at c11 ⊢
      have hi2 : i = 0 ∨ i = 1 := by omega
      rcases hi2 with rfl | rfl
      · rw [up_2 (by omega)]; exact c11
      · rw [up_1]; omega
    · unfold verR at c10 c11
      have hi2 : i = 0 ∨ i = 1 := by omega
      rcases hi2 with rfl | rfl
      · have w0 : va_up v 0 v' 0 = v' := up_1
        rw [w0]
        intro q1; exfalso; omega
      · have w0 : va_up v 1 v' 1 = v' := up_1
        rw [w0]
        intro q1 q2; exfalso; omega
theorem Fr3.whole {x a m : Nat} {h h' : FH} (f : Fr3 a m (pX x 0) (pX x 1) h h') (h1 : x ≤ a) (h2 : a + m ≤ x + 121) : FrO x 121 h h' := ⟨f.1, fun q hq => f.2 q (by omega) (by unfold pX; omega) (by unfold pX; omega)⟩
theorem DynC.bis {x k m : Nat} {σ : Sw} {h : FH} (y : DynC x k m σ h) : ∃ v : Nat → Nat, (∀ i, i < 2 → v i ≤ m) ∧ (∀ i, i < 2 → SpP (pX x i) (σ.1 i) (σ.2 i) (v i) h) ∧ BisP (x + 45) (pX x) σ.1 v h ∧ ∀ h', Fr3 (x + 45) 13 (pX x 0) (pX x 1) h h' → BisP (x + 45) (pX x) σ.1 v h' → (∀ i, i < 2 → SpP (pX x i) (σ.1 i) (σ.2 i) (v i) h') → DynC x k m σ h' := by
  obtain ⟨v, h1, h2, h3, h4⟩ := y
  exact ⟨v, h1, h2, h3, fun h' f b1 b2 => ⟨v, h1, b2, b1, h4.ag fun q c1 c2 => f.2 q (by omega) (by unfold pX; omega) (by unfold pX; omega)⟩⟩
theorem DynC.wrd {x k m : Nat} {σ : Sw} {h : FH} (y : DynC x k m σ h) : ∃ v : Nat → Nat, (∀ i, i < 2 → v i ≤ m) ∧ (∀ i, i < 2 → SpP (pX x i) (σ.1 i) (σ.2 i) (v i) h) ∧ WrdP (x + 58) k (pX x) σ.1 v h ∧ ∀ h', Fr3 (x + 58) 33 (pX x 0) (pX x 1) h h' → WrdP (x + 58) (k + 1) (pX x) σ.1 v h' → (∀ i, i < 2 → SpP (pX x i) (σ.1 i) (σ.2 i) (v i) h') → DynC x (k + 1) m σ h' := by
  obtain ⟨v, h1, h2, h3, h4⟩ := y
  exact ⟨v, h1, h2, h4, fun h' f b1 b2 => ⟨v, h1, b2, h3.ag fun q c1 c2 => f.2 q (by omega) (by unfold pX; omega) (by unfold pX; omega), b1⟩⟩
theorem RstC.fr {x lo n : Nat} {R : Rst} {h h' : FH} (y : RstC x R h) (f : FrO lo n h h') (hx : (x + 1 ≤ lo ∧ lo + n ≤ x + 27) ∨ (x + 45 ≤ lo ∧ lo + n ≤ x + 91)) : RstC x R h' := y.ag fun q a => f.2 q (by omega)
theorem RstC.fr3 {x a m : Nat} {R : Rst} {h h' : FH} (y : RstC x R h) (f : Fr3 a m (pX x 0) (pX x 1) h h') (hx : x + 45 ≤ a ∧ a + m ≤ x + 91) : RstC x R h' := y.ag fun q b => f.2 q (by omega) (by unfold pX; omega) (by unfold pX; omega)
theorem DynC.fr {x k m lo n : Nat} {σ : Sw} {h h' : FH} (y : DynC x k m σ h) (f : FrO lo n h h') (hx : (lo + n ≤ x + 1) ∨ (x + 27 ≤ lo ∧ lo + n ≤ x + 45) ∨ x + 91 ≤ lo) : DynC x k m σ h' := y.ag fun q a => f.2 q (by omega)
theorem FrO.whole {x lo n : Nat} {h h' : FH} (f : FrO lo n h h') (hx : x ≤ lo ∧ lo + n ≤ x + 121) : FrO x 121 h h' := f.mono (by omega) (by omega)
theorem DynC.id {x k m : Nat} {σ : Sw} {i w' : Nat} {h : FH} (y : DynC x k m (σ.1, va_up σ.2 i w') h) (e : w' = σ.2 i) : DynC x k m σ h := by
  subst e
  rw [up_id] at y
  exact y
/-- a call behind: one more -/
theorem InvC.mk {x k m : Nat} {σ : Sw} {R : Rst} {h : FH} (y : DynC x k m σ h) (z : RstC x R h) (hm : m ≤ 4 * k + 4) : InvC x (k + 1) σ R h := ⟨y.mono (by omega) (by omega), z⟩
