/-! REFINEMENT: twins lie side by side -/
theorem rf_two {s : Str} {l f1 f2 : Nat} : ∀ e i j, i < j → j < (rfS s l f1 f2 e).1 → (rfS s l f1 f2 e).2.1 i ≤ (rfS s l f1 f2 e).2.1 j ∧ (i + 2 ≤ j → (rfS s l f1 f2 e).2.1 i < (rfS s l f1 f2 e).2.1 j)
  | 0, i, j, _, h => absurd h (Nat.not_lt_zero _)
  | e + 1, i, j, hij, h => by
    have ih := rf_two (s := s) (l := l) (f1 := f1) (f2 := f2) e i j hij
    have ho := rf_o (s := s) (l := l) (f1 := f1) (f2 := f2) e i
    simp only [rfS] at h ⊢
    generalize rfS s l f1 f2 e = r at *
    split at h
    · rename_i hl
      rw [if_pos hl]
      have h : j < r.1 + 2 := h
      show updN (updN r.2.1 r.1 e) (r.1 + 1) e i ≤ updN (updN r.2.1 r.1 e) (r.1 + 1) e j ∧ (i + 2 ≤ j → updN (updN r.2.1 r.1 e) (r.1 + 1) e i < updN (updN r.2.1 r.1 e) (r.1 + 1) e j)
      unfold updN
      by_cases q1 : j < r.1
      · have := ih q1
        rw [if_neg (show ¬ i = r.1 + 1 by omega), if_neg (show ¬ i = r.1 by omega), if_neg (show ¬ j = r.1 + 1 by omega), if_neg (show ¬ j = r.1 by omega)]
        exact this
      · have ej : (if j = r.1 + 1 then e else if j = r.1 then e else r.2.1 j) = e := by
          by_cases q2 : j = r.1 + 1
          · rw [if_pos q2]
          · rw [if_neg q2, if_pos (by omega)]
        rw [ej, if_neg (show ¬ i = r.1 + 1 by omega)]
        by_cases q3 : i = r.1
        · rw [if_pos q3]
          exact ⟨Nat.le_refl _, fun q => by omega⟩
        · rw [if_neg q3]
          have := ho (by omega)
          exact ⟨by omega, fun _ => this⟩
    · rename_i hl
      rw [if_neg hl]
      have h : j < r.1 + 1 := h
      show updN r.2.1 r.1 e i ≤ updN r.2.1 r.1 e j ∧ (i + 2 ≤ j → updN r.2.1 r.1 e i < updN r.2.1 r.1 e j)
      unfold updN
      by_cases q1 : j < r.1
      · have := ih q1
        rw [if_neg (show ¬ i = r.1 by omega), if_neg (show ¬ j = r.1 by omega)]
        exact this
      · rw [if_pos (show j = r.1 by omega), if_neg (show ¬ i = r.1 by omega)]
        have := ho (by omega)
        exact ⟨by omega, fun _ => this⟩
theorem rfO_tw {s : Str} {l f1 f2 i j : Nat} (hj : j < rfN s l f1 f2) : (decide (rfO s l f1 f2 i = rfO s l f1 f2 j) && decide (i < j)) = (decide (i = j - 1) && (decide (0 < j) && decide (rfO s l f1 f2 j = rfO s l f1 f2 (j - 1)))) := by
  rw [Bool.eq_iff_iff]
  simp only [Bool.and_eq_true, decide_eq_true_eq]
  constructor
  · rintro ⟨h1, h2⟩
    have h3 : i = j - 1 := by
      by_cases q : i + 2 ≤ j
      · have : rfO s l f1 f2 i < rfO s l f1 f2 j := (rf_two s.1 i j h2 hj).2 q
        omega
      · omega
    refine ⟨h3, by omega, ?_⟩
    rw [← h3, h1]
  · rintro ⟨h1, h2, h3⟩
    subst h1
    exact ⟨h3.symm, by omega⟩
/-- a bit of the refined causes and conflicts -/
theorem rfd_Cb {s : Str} {l f1 f2 i j : Nat} {q : Bool} (hi : i < rfN s l f1 f2) (hj : j < rfN s l f1 f2) : (sC (rfdS s l f1 f2 q) j).testBit i = ((sC s (rfO s l f1 f2 j)).testBit (rfO s l f1 f2 i) || (q && (decide (rfO s l f1 f2 i = rfO s l f1 f2 j) && decide (i < j)))) := by
  rw [rfO_tw hj, rfd_C, Nat.testBit_or, bset_bit, decide_eq_true hi, Bool.true_and]
  congr 1
  cases q
  · rw [Bool.false_and, Bool.false_and, if_neg (by decide), Nat.zero_testBit]
  · rw [Bool.true_and, Bool.true_and]
    cases hc : (decide (0 < j) && decide (rfO s l f1 f2 j = rfO s l f1 f2 (j - 1)))
    · rw [if_neg (by decide), Nat.zero_testBit, Bool.and_false]
    · rw [if_pos rfl, Nat.testBit_two_pow, Bool.and_true]
      rw [Bool.eq_iff_iff, decide_eq_true_eq, decide_eq_true_eq]
      exact ⟨Eq.symm, Eq.symm⟩
theorem rfd_Kb {s : Str} {l f1 f2 i j : Nat} {q : Bool} (hi : i < rfN s l f1 f2) : (sK (rfdS s l f1 f2 q) j).testBit i = (sK s (rfO s l f1 f2 j)).testBit (rfO s l f1 f2 i) := by
  rw [rfd_K, bset_bit, decide_eq_true hi, Bool.true_and]
/-- how many events the refinement makes -/
theorem rf_cnt {s : Str} {l f1 f2 : Nat} : ∀ n, (rfS s l f1 f2 n).1 = n + ((List.range n).filter (fun e => decide (sL s e = l))).length
  | 0 => rfl
  | n + 1 => by
    have ih := rf_cnt (s := s) (l := l) (f1 := f1) (f2 := f2) n
    rw [List.range_succ, List.filter_append, List.length_append]
    simp only [rfS]
    by_cases q : sL s n = l
    · rw [if_pos q]
      have : (List.filter (fun e => decide (sL s e = l)) [n]).length = 1 := by simp [q]
      rw [this]
      show (rfS s l f1 f2 n).1 + 2 = _
      omega
    · rw [if_neg q]
      have : (List.filter (fun e => decide (sL s e = l)) [n]).length = 0 := by simp [q]
      rw [this]
      show (rfS s l f1 f2 n).1 + 1 = _
      omega
