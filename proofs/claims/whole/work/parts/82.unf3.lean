/-! UNFOLDING: an event created, the pure side -/
theorem hst_ext {s s' : Str} (hw : WfS s) (hw' : WfS s') (hn : s.1 ≤ s'.1) (hC : ∀ e, e < s.1 → sC s' e = sC s e) {e : Nat} (he : e < s.1) : hst s' e = hst s e := Nat.eq_of_testBit_eq fun i => by
  rw [Bool.eq_iff_iff]
  have hl := hst_lt hw he
  have hc := hst_clo hw he
  have hc' := hst_clo hw' (show e < s'.1 by omega)
  refine ⟨hst_in (fun a f _ h1 h2 => ?_) (hst_self e) i, hst_in (fun a f ha h1 h2 => ?_) (hst_self e) i⟩
  · have han := bit_lt_of hl h1
    rw [hC a han] at h2
    exact hc a f han h1 h2
  · rw [← hC a ha] at h2
    exact hc' a f (by omega) h1 h2
theorem hst_un {s : Str} (hw : WfS s) {e : Nat} (he : e < s.1) : ∀ i, (hst s e).testBit i = true ↔ i = e ∨ ∃ f, (sC s e).testBit f = true ∧ (hst s f).testBit i = true := fun i => by
  have hc := hst_clo hw he
  constructor
  · have key : ∀ i, (hst s e).testBit i = true → (2 ^ e ||| orf (fun f => if (sC s e).testBit f then hst s f else 0) s.1).testBit i = true := hst_in (fun a f ha h1 h2 => by
      rw [Nat.testBit_or, Bool.or_eq_true] at h1 ⊢
      right
      rcases h1 with h1 | h1
      · rw [Nat.testBit_two_pow] at h1
        have := of_decide_eq_true h1
        subst this
        exact orf_bit.mpr ⟨f, (wf_C hw he h2).1, by rw [if_pos h2]; exact hst_self f⟩
      · obtain ⟨k, hk, h3⟩ := orf_bit.mp h1
        refine orf_bit.mpr ⟨k, hk, ?_⟩
        split at h3
        · rename_i h4
          rw [if_pos h4]
          exact hst_clo hw hk a f ha h3 h2
        · simp at h3) (by rw [Nat.testBit_or, Nat.testBit_two_pow_self]; rfl)
    intro h
    have h2 := key i h
    rw [Nat.testBit_or, Bool.or_eq_true, Nat.testBit_two_pow, decide_eq_true_eq] at h2
    rcases h2 with h2 | h2
    · exact Or.inl h2.symm
    · right
      obtain ⟨k, hk, h3⟩ := orf_bit.mp h2
      split at h3
      · rename_i h4
        exact ⟨k, h4, h3⟩
      · simp at h3
  · rintro (rfl | ⟨f, h1, h2⟩)
    · exact hst_self i
    · exact hst_in hc (hc e f he (hst_self e) h1) i h2
def csU (u : Unf) (row : Nat) : Nat := orf (fun c => if row.testBit c && !decide (upo u c = 0) then 2 ^ (upo u c - 1) else 0) (uc u)
def ksU (u : Unf) (row : Nat) : Nat := bset (fun f => !decide (utk u f &&& row = 0)) (uS u).1
def crS (u : Unf) (l row : Nat) : Str := ((uS u).1 + 1, updN (sL (uS u)) (uS u).1 l, updN (sD (uS u)) (uS u).1 1, updN (sC (uS u)) (uS u).1 (csU u row), fun f => if f = (uS u).1 then ksU u row else if (ksU u row).testBit f then sK (uS u) f ||| 2 ^ (uS u).1 else sK (uS u) f)
def crU (u : Unf) (N : Ntt) (t row : Nat) : Unf := (crS u (N.2.2.2.2.2 t) row, (prU (N.2.2.2.2.1 t) ((uS u).1 + 1) (uc u, upl u, upo u) 6).1, (prU (N.2.2.2.2.1 t) ((uS u).1 + 1) (uc u, upl u, upo u) 6).2.1, (prU (N.2.2.2.2.1 t) ((uS u).1 + 1) (uc u, upl u, upo u) 6).2.2, updN (utr u) (uS u).1 t, updN (utk u) (uS u).1 row)
theorem csU_lt {u : Unf} (hu : WfU u) {row : Nat} : csU u row < 2 ^ (uS u).1 := orf_lt fun c hc => by
  show (if row.testBit c && !decide (upo u c = 0) then 2 ^ (upo u c - 1) else 0) < _
  split
  · rename_i h
    rw [Bool.and_eq_true, Bool.not_eq_true', decide_eq_false_iff_not] at h
    have := (hu.2.2.2.1 c hc).2
    exact pow_lt (by omega)
  · exact Nat.two_pow_pos _
theorem ksU_lt {u : Unf} {row : Nat} : ksU u row < 2 ^ (uS u).1 := bset_lt
theorem crS_wf {u : Unf} (hu : WfU u) {l row : Nat} (hl : l < 6) (h8 : (uS u).1 < 8) : WfS (crS u l row) := by
  obtain ⟨hw, hac, -, -, -⟩ := id hu
  have hcs := csU_lt hu (row := row)
  have hks := ksU_lt (u := u) (row := row)
  have p1 : 2 ^ (uS u).1 ≤ 2 ^ ((uS u).1 + 1) := pow_le (by omega)
  have p2 : 2 ^ (uS u).1 < 2 ^ ((uS u).1 + 1) := pow_lt (by omega)
  generalize hn : (uS u).1 = n at *
  have e1 : (crS u l row).1 = n + 1 := by show (uS u).1 + 1 = _; rw [hn]
  have eL : ∀ e, sL (crS u l row) e = if e = n then l else sL (uS u) e := fun e => by show updN (sL (uS u)) (uS u).1 l e = _; rw [hn]; rfl
  have eD : ∀ e, sD (crS u l row) e = if e = n then 1 else sD (uS u) e := fun e => by show updN (sD (uS u)) (uS u).1 1 e = _; rw [hn]; rfl
  have eC : ∀ e, sC (crS u l row) e = if e = n then csU u row else sC (uS u) e := fun e => by show updN (sC (uS u)) (uS u).1 _ e = _; rw [hn]; rfl
  have eK : ∀ e, sK (crS u l row) e = if e = n then ksU u row else if (ksU u row).testBit e then sK (uS u) e ||| 2 ^ n else sK (uS u) e := fun e => by show (if e = (uS u).1 then _ else _) = _; rw [hn]
  refine ⟨by rw [e1]; omega, fun e he => ?_, fun e => e, fun e f he hf h => ?_⟩
  · rw [e1] at he
    rw [eL, eD, eC, eK, e1]
    by_cases q : e = n
    · subst q
      rw [if_pos rfl, if_pos rfl, if_pos rfl, if_pos rfl]
      refine ⟨hl, by omega, by omega, by omega, tb_false_of_lt hks (Nat.le_refl _), fun f hf => ?_⟩
      rw [eK]
      by_cases q2 : f = e
      · subst q2; rw [if_pos rfl]
      · rw [if_neg q2]
        have hfn : f < e := by omega
        obtain ⟨-, -, -, w4, -, -⟩ := hw.2.1 f (by rw [hn]; exact hfn)
        rw [hn] at w4
        cases hb : (ksU u row).testBit f
        · rw [if_neg (by decide), tb_false_of_lt w4 (Nat.le_refl _)]
        · rw [if_pos rfl, or_pow_bit]; simp
    · have hen : e < n := by omega
      obtain ⟨w1, w2, w3, w4, w5, w6⟩ := hw.2.1 e (by rw [hn]; exact hen)
      rw [hn] at w3 w4 w6
      rw [if_neg q, if_neg q, if_neg q, if_neg q]
      refine ⟨w1, w2, by omega, ?_, ?_, fun f hf => ?_⟩
      · split
        · exact Nat.or_lt_two_pow (by omega) p2
        · omega
      · split
        · rw [or_pow_bit, w5, decide_eq_false (fun q2 => q q2.symm)]; rfl
        · exact w5
      · rw [eK]
        by_cases q2 : f = n
        · subst q2
          rw [if_pos rfl]
          cases hb : (ksU u row).testBit e
          · rw [if_neg (by decide)]
            exact tb_false_of_lt w4 (Nat.le_refl _)
          · rw [if_pos rfl, or_pow_bit]; simp
        · rw [if_neg q2]
          have hfn : f < n := by omega
          have h1 : ∀ (c : Bool) (x k : Nat), k ≠ n → (if c then x ||| 2 ^ n else x).testBit k = x.testBit k := fun c x k hk => by
            cases c
            · rw [if_neg (by decide)]
            · rw [if_pos rfl, or_pow_bit, decide_eq_false (fun q3 => hk q3.symm), Bool.or_false]
          rw [h1 _ _ _ (by omega), h1 _ _ _ (by omega)]
          exact w6 f hfn
  · rw [e1] at he hf
    rw [eC] at h
    by_cases q : f = n
    · subst q
      rw [if_pos rfl] at h
      exact bit_lt_of hcs h
    · rw [if_neg q] at h
      exact hac f e (by omega) h
theorem crU_wf {u : Unf} {N : Ntt} (hu : WfU u) (hN : WfN N) {t row : Nat} (ht : t < N.2.2.1) (hrow : row < 2 ^ uc u) (h8 : (uS u).1 < 8) : WfU (crU u N t row) := by
  obtain ⟨n1, n2, n3, n4⟩ := hN
  obtain ⟨a1, a2, a3, a4⟩ := n4 t ht
  have hle := prU_le (O := N.2.2.2.2.1 t) (k := (uS u).1 + 1) (q := (uc u, upl u, upo u)) 6
  have hin := prU_in (O := N.2.2.2.2.1 t) (k := (uS u).1 + 1) (n := (uS u).1 + 1) (q := (uc u, upl u, upo u)) (Nat.le_refl _) (fun c hc => by
    have := hu.2.2.2.1 c hc
    exact ⟨this.1, by show upo u c ≤ _; omega⟩) 6 (Nat.le_refl _)
  have hcs := csU_lt hu (row := row)
  have hc := hu.2.2.1
  refine ⟨crS_wf hu a3 h8, fun e f he h => ?_, ?_, hin, fun e he => ?_⟩
  · have he : e < (uS u).1 + 1 := he
    have h : (updN (sC (uS u)) (uS u).1 (csU u row) e).testBit f = true := h
    unfold updN at h
    by_cases q : e = (uS u).1
    · rw [if_pos q] at h
      rw [q]
      exact bit_lt_of hcs h
    · rw [if_neg q] at h
      exact hu.2.1 e f (by omega) h
  · show (prU (N.2.2.2.2.1 t) ((uS u).1 + 1) (uc u, upl u, upo u) 6).1 ≤ 6 + 6 * ((uS u).1 + 1)
    have : (uc u, upl u, upo u).1 = uc u := rfl
    omega
  · have he : e < (uS u).1 + 1 := he
    show updN (utr u) (uS u).1 t e < 6 ∧ updN (utk u) (uS u).1 row e < 2 ^ (prU (N.2.2.2.2.1 t) ((uS u).1 + 1) (uc u, upl u, upo u) 6).1
    have hp : 2 ^ uc u ≤ 2 ^ (prU (N.2.2.2.2.1 t) ((uS u).1 + 1) (uc u, upl u, upo u) 6).1 := pow_le hle.1
    unfold updN
    by_cases q : e = (uS u).1
    · rw [if_pos q, if_pos q]
      exact ⟨by omega, by omega⟩
    · rw [if_neg q, if_neg q]
      have := hu.2.2.2.2 e (by omega)
      exact ⟨this.1, by omega⟩
theorem cr_hst {u : Unf} (hu : WfU u) {l row : Nat} (hl : l < 6) (h8 : (uS u).1 < 8) : (∀ e, e < (uS u).1 → hst (crS u l row) e = hst (uS u) e) ∧ hst (crS u l row) (uS u).1 = psU u row ||| 2 ^ (uS u).1 := by
  have hw' := crS_wf hu (row := row) hl h8
  have hold : ∀ e, e < (uS u).1 → hst (crS u l row) e = hst (uS u) e := fun e he => hst_ext hu.1 hw' (Nat.le_succ _) (fun a ha => if_neg (by omega)) he
  refine ⟨hold, Nat.eq_of_testBit_eq fun i => ?_⟩
  have hC : sC (crS u l row) (uS u).1 = csU u row := if_pos rfl
  rw [Bool.eq_iff_iff, hst_un hw' (show (uS u).1 < (uS u).1 + 1 by omega), hC, or_pow_bit, Bool.or_eq_true, decide_eq_true_eq]
  unfold csU psU
  rw [orf_bit]
  constructor
  · rintro (rfl | ⟨f, h1, h2⟩)
    · exact Or.inr rfl
    · left
      obtain ⟨c, hc, h3⟩ := orf_bit.mp h1
      refine ⟨c, hc, ?_⟩
      split at h3
      · rename_i h4
        rw [if_pos h4]
        rw [Nat.testBit_two_pow, decide_eq_true_eq] at h3
        subst h3
        rw [Bool.and_eq_true, Bool.not_eq_true', decide_eq_false_iff_not] at h4
        have := (hu.2.2.2.1 c hc).2
        rw [hold _ (by omega)] at h2
        exact h2
      · simp at h3
  · rintro (⟨c, hc, h3⟩ | h)
    · right
      split at h3
      · rename_i h4
        refine ⟨upo u c - 1, orf_bit.mpr ⟨c, hc, by rw [if_pos h4]; exact Nat.testBit_two_pow_self⟩, ?_⟩
        rw [Bool.and_eq_true, Bool.not_eq_true', decide_eq_false_iff_not] at h4
        have := (hu.2.2.2.1 c hc).2
        rw [hold _ (by omega)]
        exact h3
      · simp at h3
    · exact Or.inl h.symm
