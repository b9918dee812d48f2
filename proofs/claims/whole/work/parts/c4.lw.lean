/-! WORDS of the reference: both layers; begin -/
def PpOk (m : Nat) (pp : Nat → Nat → Nat) (top : Nat) : Prop := m + 63 ≤ top ∧ (∀ y, y < 2 → ∀ k, k < 3 → pp y k < top ∧ ((m + 36 + 4 * y ≤ pp y k ∧ pp y k < m + 39 + 4 * y) ∨ m + 63 ≤ pp y k)) ∧ ∀ y k y' k', y < 2 → k < 3 → y' < 2 → k' < 3 → pp y k = pp y' k' → y = y' ∧ k = k'
def LW (m : Nat) (pp : Nat → Nat → Nat) (cap : Nat → Nat) (Lf : Nat → Lay) (h : FH) : Prop := twA 8 (m + 34) (m + 35) (m + 39) h ∧ (∀ y, y < 2 → LayV (m + 35 + 4 * y) (cap y) (Lf y) (pp y 0) (pp y 1) (pp y 2) h ∧ capB (cap y)) ∧ PpOk m pp h.1
theorem LayV.eqv {a cap p1 p2 p3 : Nat} {L : Lay} {h h' : FH} (x : LayV a cap L p1 p2 p3 h) (h0 : h'.2 a = h.2 a) (h1 : h'.2 p1 = h.2 p1) (h2 : h'.2 p2 = h.2 p2) (h3 : h'.2 p3 = h.2 p3) : LayV a cap L p1 p2 p3 h' := by
  obtain ⟨FS, WS, CS, ⟨o0, o1, o2, o3⟩, r⟩ := x
  exact ⟨FS, WS, CS, ⟨h0.trans o0, h1.trans o1, h2.trans o2, h3.trans o3⟩, r⟩
theorem LayV.cong {a cap p1 p2 p3 : Nat} {L L' : Lay} {h : FH} (x : LayV a cap L p1 p2 p3 h) (hn : lyN L = lyN L') (hc : ∀ i, i < lyN L → lyF L i = lyF L' i ∧ lyW L i = lyW L' i ∧ lyC L i = lyC L' i) : LayV a cap L' p1 p2 p3 h := by
  obtain ⟨FS, WS, CS, o, n, r⟩ := x
  refine ⟨FS, WS, CS, by rw [← hn]; exact o, by rw [← hn]; exact n, fun i hi => ?_⟩
  rw [← hn] at hi
  obtain ⟨c1, c2, c3⟩ := hc i hi
  rw [← c1, ← c2, ← c3]
  exact r i hi
theorem LW.eqv {m : Nat} {pp : Nat → Nat → Nat} {cap : Nat → Nat} {Lf : Nat → Lay} {h h' : FH} (x : LW m pp cap Lf h) (ht : h.1 ≤ h'.1) (hf : ∀ q, q < h.1 → ((m + 34 ≤ q ∧ q < m + 43) ∨ m + 63 ≤ q) → h'.2 q = h.2 q) : LW m pp cap Lf h' := by
  obtain ⟨h1, h2, h3, h4, h5⟩ := x
  refine ⟨?_, fun y hy => ⟨?_, (h2 y hy).2⟩, by omega, fun y hy k hk => ⟨by have := (h4 y hy k hk).1; omega, (h4 y hy k hk).2⟩, h5⟩
  · unfold twA
    rw [hf _ (by omega) (by omega)]
    exact h1
  · have a0 := h4 y hy 0 (by omega)
    have a1 := h4 y hy 1 (by omega)
    have a2 := h4 y hy 2 (by omega)
    exact (h2 y hy).1.eqv (hf _ (by omega) (by omega)) (hf _ a0.1 (by omega)) (hf _ a1.1 (by omega)) (hf _ a2.1 (by omega))
theorem PpOk.dis {m top : Nat} {pp : Nat → Nat → Nat} (h : PpOk m pp top) {y : Nat} (hy : y < 2) : Dis4 (m + 35 + 4 * y) (pp y 0) (pp y 1) (pp y 2) := by
  obtain ⟨h1, h2, h3⟩ := h
  have a0 := h2 y hy 0 (by omega)
  have a1 := h2 y hy 1 (by omega)
  have a2 := h2 y hy 2 (by omega)
  refine ⟨by omega, by omega, by omega, fun e => ?_, fun e => ?_, fun e => ?_⟩
  · have := (h3 y 0 y 1 hy (by omega) hy (by omega) e).2; omega
  · have := (h3 y 0 y 2 hy (by omega) hy (by omega) e).2; omega
  · have := (h3 y 1 y 2 hy (by omega) hy (by omega) e).2; omega
def FrWd (m : Nat) (h h' : FH) : Prop := h.1 ≤ h'.1 ∧ ∀ q, (q < m + 35 ∨ (m + 44 ≤ q ∧ q < m + 63)) → h'.2 q = h.2 q
theorem FrWd.refl {m : Nat} {h : FH} : FrWd m h h := ⟨Nat.le_refl _, fun _ _ => rfl⟩
theorem FrWd.trans {m : Nat} {h h' h'' : FH} (a : FrWd m h h') (b : FrWd m h' h'') : FrWd m h h'' := ⟨Nat.le_trans a.1 b.1, fun q hq => (b.2 q hq).trans (a.2 q hq)⟩
theorem FrWd.of {m lo n : Nat} {h h' : FH} (a : FrO lo n h h') (e : m + 35 ≤ lo ∧ lo + n ≤ m + 44) : FrWd m h h' := ⟨by rw [a.1]; exact Nat.le_refl _, fun q hq => a.2 q (by omega)⟩
def FrWe (m : Nat) (h h' : FH) : Prop := h.1 ≤ h'.1 ∧ ∀ q, (q < m + 35 ∨ (m + 45 ≤ q ∧ q < m + 63)) → h'.2 q = h.2 q
theorem FrWd.to {m : Nat} {h h' : FH} (a : FrWd m h h') : FrWe m h h' := ⟨a.1, fun q hq => a.2 q (by omega)⟩
theorem FrWe.trans {m : Nat} {h h' h'' : FH} (a : FrWe m h h') (b : FrWe m h' h'') : FrWe m h h'' := ⟨Nat.le_trans a.1 b.1, fun q hq => (b.2 q hq).trans (a.2 q hq)⟩
theorem FrWe.of {m lo n : Nat} {h h' : FH} (a : FrO lo n h h') (e : m + 35 ≤ lo ∧ lo + n ≤ m + 45) : FrWe m h h' := ⟨by rw [a.1]; exact Nat.le_refl _, fun q hq => a.2 q (by omega)⟩
theorem MB.wd {m : Nat} {I : Nat → Int32} {S : Nat → Str} {w : Nat → Nat} {h h' : FH} (x : MB m I S w h) (hf : ∀ q, q < m + 35 → h'.2 q = h.2 q) : MB m I S w h' := by
  obtain ⟨h0, ⟨f, h1, h2⟩, h3⟩ := x
  refine ⟨by rw [hf _ (by omega)]; exact h0, ⟨f, by rw [hf _ (by omega)]; exact h1, h2⟩, fun i hi => ?_⟩
  obtain ⟨L, D, C, K, V, ⟨s0, s1, s2, s3, s4, s5⟩, hr⟩ := h3 i hi
  refine ⟨L, D, C, K, V, ⟨?_, ?_, ?_, ?_, ?_, ?_⟩, hr⟩ <;> (rw [hf _ (by omega)]; assumption)
theorem lyn0 : lyN L0 = 0 := rfl
theorem R_LclearW {g : GE} {Q : Option Value → FH → Bd → Prop} {h : FH} {b : Bd} {m y : Nat} {pp : Nat → Nat → Nat} {cap : Nat → Nat} {Lf : Nat → Lay} (hg : 1 ≤ g.1) (hL : LW m pp cap Lf h) (hy : y < 2) (hq : ∀ h', LW m pp cap (va_up Lf y L0) h' → FrO (m + 35 + 4 * y) 1 h h' → Q none h' b) : CallQ 208 g [.ref (m + 35 + 4 * y)] Q h b := by
  obtain ⟨h1, h2, h3⟩ := hL
  obtain ⟨⟨FS, WS, CS, o, n, r⟩, hc⟩ := h2 y hy
  refine R_Lclear hg o (h3.dis hy) (fun h' o' hf => hq h' ⟨?_, fun z hz => ?_, ?_⟩ hf)
  · unfold twA
    rw [hf.2 _ (by omega)]
    exact h1
  · by_cases e : z = y
    · subst e
      rw [up_1]
      exact ⟨⟨FS, WS, CS, o', Nat.zero_le _, fun i hi => absurd hi (by rw [lyn0]; omega)⟩, hc⟩
    · rw [up_2 e]
      obtain ⟨t1, t2⟩ := h2 z hz
      obtain ⟨g1, g2, g3⟩ := h3
      have a0 := g2 z hz 0 (by omega)
      have a1 := g2 z hz 1 (by omega)
      have a2 := g2 z hz 2 (by omega)
      refine ⟨t1.eqv (hf.2 _ (by omega)) (hf.2 _ ?_) (hf.2 _ ?_) (hf.2 _ ?_), t2⟩ <;> (rcases i2 hz with rfl | rfl <;> rcases i2 hy with rfl | rfl <;> omega)
  · rw [hf.1]
    exact h3
theorem R_LaddW {g : GE} {Q : Option Value → FH → Bd → Prop} {h : FH} {b : Bd} {m y ix len c gc : Nat} {pp : Nat → Nat → Nat} {cap : Nat → Nat} {Lf : Nat → Lay} {fr : Nat → Int64} {F : Fr} {lab : Int32} {v : List Nat} (hg : 3 ≤ g.1) (hL : LW m pp cap Lf h) (hy : y < 2) (hfa : h.2 (m + 43) = some (aL 8 fr)) (hF : frL fr = F) (hv : (lab = nI 4294967295 ∧ len = 0 ∧ v = []) ∨ ∃ l, lab = nI l ∧ l < 6 ∧ ix < lyN (Lf (1 - y)) ∧ (lyW (Lf (1 - y)) ix).length = len ∧ len < 8 ∧ v = lyW (Lf (1 - y)) ix ++ [l]) (hgc : gc = if fndL (Lf y) F = none ∧ lyN (Lf y) = cap y then cap y else 0) (hcap : capB (cap y + gc)) (hb1 : gc ≤ b.1) (hb2 : 34 * gc ≤ b.2) (hq : ∀ h' pp', LW m pp' (va_up cap y (cap y + gc)) (va_up Lf y (adL (Lf y) F v c)) h' → FrWd m h h' → h'.2 (m + 43) = some (aL 8 fr) → Q none h' (b.1 - gc, b.2 - 34 * gc)) : CallQ 209 g [.ref (m + 35 + 4 * y), .ref (m + 43), .ref (m + 35 + 4 * (1 - y)), .int (nI ix), .int (nI len), .int lab, .int (nI c)] Q h b := by
  obtain ⟨h1, h2, h3⟩ := hL
  have hD := h3.dis hy
  obtain ⟨g1, g2, g3⟩ := id h3
  have a0 := g2 y hy 0 (by omega)
  have a1 := g2 y hy 1 (by omega)
  have a2 := g2 y hy 2 (by omega)
  have hz : 1 - y < 2 := by omega
  have b0 := g2 (1 - y) hz 0 (by omega)
  have b1 := g2 (1 - y) hz 1 (by omega)
  have b2 := g2 (1 - y) hz 2 (by omega)
  have ne : ∀ k k', k < 3 → k' < 3 → pp (1 - y) k ≠ pp y k' := fun k k' hk hk' e => by
    have := (g3 _ _ _ _ hz hk hy hk' e).1
    omega
  have sep : ∀ k, k < 3 → pp (1 - y) k ≠ m + 35 + 4 * y ∧ pp y k ≠ m + 35 + 4 * (1 - y) := fun k hk => by
    have c0 := g2 y hy k hk
    have c1 := g2 (1 - y) hz k hk
    rcases i2 hy with rfl | rfl <;> omega
  have seo : m + 35 + 4 * (1 - y) ≠ m + 35 + 4 * y := by omega
  refine R_Ladd (L2 := Lf (1 - y)) hg (h2 y hy).1 hD ⟨by omega, a0.1, a1.1, a2.1⟩ (h2 y hy).2 hfa hF ⟨by omega, by omega, by omega, by omega, by omega⟩ (h2 (1 - y) hz).1 ⟨by omega, seo, (sep 0 (by omega)).2.symm, (sep 1 (by omega)).2.symm, (sep 2 (by omega)).2.symm⟩ ⟨b1.1, (sep 1 (by omega)).1, ne _ _ (by omega) (by omega), ne _ _ (by omega) (by omega), ne _ _ (by omega) (by omega)⟩ (h2 (1 - y) hz).2 hv hgc hb1 hb2 (fun h' q1 q2 q3 t1 t2 t3 t4 t5 => ?_)
  have other : ∀ q, q < h.1 → q ≠ m + 35 + 4 * y → (∀ k, k < 3 → q ≠ pp y k) → h'.2 q = h.2 q := fun q z1 z2 z3 => t5 q z1 z2 (z3 0 (by omega)) (z3 1 (by omega)) (z3 2 (by omega))
  have low : ∀ q, (q < m + 35 ∨ (m + 43 ≤ q ∧ q < m + 63)) → h'.2 q = h.2 q := fun q hq => t5 q (by omega) (by omega) (by omega) (by omega) (by omega)
  refine hq h' (va_up pp y (fun k => if k = 0 then q1 else if k = 1 then q2 else q3)) ⟨?_, fun z hz2 => ?_, ?_⟩ ⟨t4, fun q hq => low q (by omega)⟩ ((low _ (by omega)).trans hfa)
  · unfold twA
    rw [low _ (by omega)]
    exact h1
  · by_cases e : z = y
    · subst e
      rw [up_1, up_1, up_1]
      exact ⟨t1, hcap⟩
    · have : z = 1 - y := by omega
      subst this
      rw [up_2 e, up_2 e, up_2 e]
      refine ⟨(h2 (1 - y) hz).1.eqv (other _ (by omega) seo (fun k hk => (sep k hk).2.symm)) (other _ b0.1 (sep 0 (by omega)).1 (fun k hk => ne _ _ (by omega) hk)) (other _ b1.1 (sep 1 (by omega)).1 (fun k hk => ne _ _ (by omega) hk)) (other _ b2.1 (sep 2 (by omega)).1 (fun k hk => ne _ _ (by omega) hk)), (h2 (1 - y) hz).2⟩
  · rcases t2 with ⟨rfl, rfl, rfl⟩ | ⟨u1, u2, u3⟩
    · have e : va_up pp y (fun k => if k = 0 then pp y 0 else if k = 1 then pp y 1 else pp y 2) = fun z k => if z = y then (if k = 0 then pp y 0 else if k = 1 then pp y 1 else pp y 2) else pp z k := funext fun z => by
        unfold va_up
        split <;> rfl
      have key : ∀ z k, k < 3 → (va_up pp y (fun k => if k = 0 then pp y 0 else if k = 1 then pp y 1 else pp y 2)) z k = pp z k := fun z k hk => by
        unfold va_up
        by_cases ez : z = y
        · subst ez
          rw [if_pos rfl]
          show (if k = 0 then pp z 0 else if k = 1 then pp z 1 else pp z 2) = _
          by_cases k0 : k = 0
          · subst k0; rfl
          · by_cases k1 : k = 1
            · subst k1; rfl
            · rw [if_neg k0, if_neg k1]
              congr 1
              omega
        · rw [if_neg ez]
      refine ⟨by omega, fun z hz2 k hk => ?_, fun z k z' k' hz2 hk hz' hk' => ?_⟩
      · rw [key z k hk]
        have := g2 z hz2 k hk
        exact ⟨by omega, this.2⟩
      · rw [key z k hk, key z' k' hk']
        exact g3 z k z' k' hz2 hk hz' hk'
    · have key : ∀ z k, z < 2 → k < 3 → (z = y ∧ (va_up pp y (fun k => if k = 0 then q1 else if k = 1 then q2 else q3)) z k = (if k = 0 then q1 else if k = 1 then q2 else q3)) ∨ (z ≠ y ∧ (va_up pp y (fun k => if k = 0 then q1 else if k = 1 then q2 else q3)) z k = pp z k) := fun z k hz2 hk => by
        by_cases e : z = y
        · exact Or.inl ⟨e, by subst e; rw [up_1]⟩
        · exact Or.inr ⟨e, by rw [up_2 e]⟩
      have qk : ∀ k, k < 3 → h.1 ≤ (if k = 0 then q1 else if k = 1 then q2 else q3) ∧ (if k = 0 then q1 else if k = 1 then q2 else q3) < h'.1 := fun k hk => by
        split
        · omega
        · split <;> omega
      have qi : ∀ k k', k < 3 → k' < 3 → (if k = 0 then q1 else if k = 1 then q2 else q3) = (if k' = 0 then q1 else if k' = 1 then q2 else q3) → k = k' := fun k k' hk hk' e => by
        split at e <;> split at e <;> (try split at e) <;> (try split at e) <;> omega
      refine ⟨by omega, fun z hz2 k hk => ?_, fun z k z' k' hz2 hk hz' hk' e => ?_⟩
      · have q0 := qk k hk
        rcases key z k hz2 hk with ⟨e1, e2⟩ | ⟨e1, e2⟩
        · rw [e2]; exact ⟨q0.2, Or.inr (by omega)⟩
        · rw [e2]
          have := g2 z hz2 k hk
          exact ⟨by omega, this.2⟩
      · have q0 := qk k hk
        have q0' := qk k' hk'
        have l0 := g2 z hz2 k hk
        have l1 := g2 z' hz' k' hk'
        rcases key z k hz2 hk with ⟨e1, e2⟩ | ⟨e1, e2⟩ <;> rcases key z' k' hz' hk' with ⟨e3, e4⟩ | ⟨e3, e4⟩ <;> rw [e2, e4] at e
        · exact ⟨by omega, qi k k' hk hk' e⟩
        · omega
        · omega
        · exact g3 z k z' k' hz2 hk hz' hk' e
