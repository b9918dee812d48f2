/-! THE REFERENCE: refinement, causes and conflicts -/
def refP (s : Str) (o : Nat → Nat) (q : Bool) (i j : Nat) : Bool := (sC s (o j)).testBit (o i) || (q && (decide (o i = o j) && decide (i < j)))
def refR (s : Str) (o : Nat → Nat) (i j : Nat) : Bool := (sK s (o j)).testBit (o i)
def refD (e f i j : Nat) : Bool := decide (i < e) || (decide (i = e) && decide (j < f))
def refK (s : Str) (o : Nat → Nat) (n e f j : Nat) : Nat := bset (fun i => refR s o i j && (refD e f i j || refD e f j i)) n
theorem refK_z {s : Str} {o : Nat → Nat} {n j : Nat} : refK s o n 0 0 j = 0 := Nat.eq_of_testBit_eq fun i => by
  unfold refK refD
  rw [bset_bit, Nat.zero_testBit]
  simp
theorem refK_no {s : Str} {o : Nat → Nat} {n e f j : Nat} (hs : ∀ i j, i < n → j < n → refR s o i j = refR s o j i) (hj : j < n) (hf : f < n) (he : e < n) (h : refR s o e f = false) : refK s o n e (f + 1) j = refK s o n e f j := Nat.eq_of_testBit_eq fun i => by
  unfold refK
  rw [bset_bit, bset_bit]
  by_cases hi : i < n
  · cases hr : refR s o i j
    · rw [Bool.false_and, Bool.false_and]
    · have h1 : ¬ (i = e ∧ j = f) := by
        rintro ⟨rfl, rfl⟩
        rw [hr] at h; cases h
      have h2 : ¬ (j = e ∧ i = f) := by
        rintro ⟨rfl, rfl⟩
        rw [hs _ _ hi hj, h] at hr; cases hr
      congr 2
      unfold refD
      rw [Bool.eq_iff_iff]
      simp only [Bool.or_eq_true, Bool.and_eq_true, decide_eq_true_eq]
      omega
  · rw [decide_eq_false hi, Bool.false_and, Bool.false_and]
theorem refK_yes {s : Str} {o : Nat → Nat} {n e f j : Nat} (hs : ∀ i j, i < n → j < n → refR s o i j = refR s o j i) (hj : j < n) (hf : f < n) (he : e < n) (hef : e ≠ f) (h : refR s o e f = true) : refK s o n e (f + 1) j = if j = f then refK s o n e f j ||| 2 ^ e else if j = e then refK s o n e f j ||| 2 ^ f else refK s o n e f j := Nat.eq_of_testBit_eq fun i => by
  have key : ∀ i, (refK s o n e (f + 1) j).testBit i = ((refK s o n e f j).testBit i || (decide (j = f) && decide (i = e)) || (decide (j = e) && decide (i = f))) := fun i => by
    unfold refK
    rw [bset_bit, bset_bit]
    by_cases hi : i < n
    · rw [decide_eq_true hi, Bool.true_and, Bool.true_and]
      cases hr : refR s o i j
      · have h1 : ¬ (i = e ∧ j = f) := by
          rintro ⟨rfl, rfl⟩
          rw [hr] at h; cases h
        have h2 : ¬ (j = e ∧ i = f) := by
          rintro ⟨rfl, rfl⟩
          rw [hs _ _ hi hj, h] at hr; cases hr
        rw [Bool.false_and, Bool.false_and, Bool.false_or]
        symm
        rw [Bool.or_eq_false_iff, Bool.and_eq_false_iff, Bool.and_eq_false_iff, decide_eq_false_iff_not, decide_eq_false_iff_not, decide_eq_false_iff_not, decide_eq_false_iff_not]
        omega
      · rw [Bool.true_and, Bool.true_and]
        unfold refD
        rw [Bool.eq_iff_iff]
        simp only [Bool.or_eq_true, Bool.and_eq_true, decide_eq_true_eq]
        omega
    · have h1 : i ≠ e := by omega
      have h2 : i ≠ f := by omega
      rw [decide_eq_false hi, decide_eq_false h1, decide_eq_false h2]
      simp
  rw [key]
  by_cases q1 : j = f
  · subst q1
    rw [if_pos rfl, or_pow_bit, decide_eq_true rfl, decide_eq_false (show ¬ j = e by omega), Bool.true_and, Bool.false_and, Bool.or_false]
    congr 1
    rw [Bool.eq_iff_iff, decide_eq_true_eq, decide_eq_true_eq]
    exact ⟨Eq.symm, Eq.symm⟩
  · rw [if_neg q1, decide_eq_false q1, Bool.false_and, Bool.or_false]
    by_cases q2 : j = e
    · rw [if_pos q2, or_pow_bit, decide_eq_true q2, Bool.true_and]
      congr 1
      rw [Bool.eq_iff_iff, decide_eq_true_eq, decide_eq_true_eq]
      exact ⟨Eq.symm, Eq.symm⟩
    · rw [if_neg q2, decide_eq_false q2, Bool.false_and, Bool.or_false]
theorem refK_n {s : Str} {o : Nat → Nat} {n e j : Nat} (he : e < n) (hj : j < n) : refK s o n e n j = refK s o n (e + 1) 0 j := Nat.eq_of_testBit_eq fun i => by
  unfold refK
  rw [bset_bit, bset_bit]
  by_cases hi : i < n
  · congr 2
    unfold refD
    rw [Bool.eq_iff_iff]
    simp only [Bool.or_eq_true, Bool.and_eq_true, decide_eq_true_eq]
    omega
  · rw [decide_eq_false hi, Bool.false_and, Bool.false_and]
theorem refK_all {s : Str} {o : Nat → Nat} {n j : Nat} (hj : j < n) : refK s o n n 0 j = bset (fun i => refR s o i j) n := Nat.eq_of_testBit_eq fun i => by
  unfold refK
  rw [bset_bit, bset_bit]
  by_cases hi : i < n
  · have : refD n 0 i j = true := by
      unfold refD
      rw [decide_eq_true hi, Bool.true_or]
    rw [this, Bool.true_or, Bool.and_true]
  · rw [decide_eq_false hi, Bool.false_and, Bool.false_and]
