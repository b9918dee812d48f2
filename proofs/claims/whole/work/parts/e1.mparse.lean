/-! PARSE of the reference: parse -/
theorem prs_cost {T : Nat → Nat} {n : Nat} : ∀ (f k p : Nat) (ts : List Nat), p ≤ n → ((prs T n f k p ts).2.1 = none → (prs T n f k p ts).2.2 + p ≤ (prs T n f k p ts).1 + 1) ∧ ((prs T n f k p ts).2.1 ≠ none → (prs T n f k p ts).2.2 + p ≤ (prs T n f k p ts).1)
  | 0, k, p, ts, h => ⟨fun _ => by show 0 + p ≤ p + 1; omega, fun x => absurd rfl x⟩
  | f + 1, k, p, ts, h => by
    unfold prs
    split
    · split
      · rename_i ht
        have hlt := (tk_lt ht).1
        have ih := prs_cost (T := T) (n := n) f 3 (p + 1) [] hlt
        split
        · rename_i p2 us c he
          rw [he] at ih
          have ih : c + (p + 1) ≤ p2 := ih.2 (by simp)
          split
          · exact ⟨fun x => (by cases x), fun _ => by show c + p ≤ p2 + 1; omega⟩
          · exact ⟨fun _ => by show c + p ≤ p2 + 1; omega, fun x => absurd rfl x⟩
        · rename_i e c he
          rw [he] at ih
          have ih : c + (p + 1) ≤ e + 1 := ih.1 rfl
          exact ⟨fun _ => by show c + p ≤ e + 1; omega, fun x => absurd rfl x⟩
      · split
        · exact ⟨fun x => (by cases x), fun _ => by show 1 + p ≤ p + 1; omega⟩
        · split
          · exact ⟨fun x => (by cases x), fun _ => by show 1 + p ≤ p + 1; omega⟩
          · exact ⟨fun _ => by show 1 + p ≤ p + 1; omega, fun x => absurd rfl x⟩
    · split
      · have ih := prs_cost (T := T) (n := n) f (k - 1) p [] h
        have hp := prs_pos (T := T) (n := n) f (k - 1) p [] h
        split
        · rename_i p2 us c he
          rw [he] at ih hp
          have ih : c + p ≤ p2 := ih.2 (by simp)
          have ih2 := prs_cost (T := T) (n := n) f (k + 3) p2 us hp.2
          refine ⟨fun x => ?_, fun x => ?_⟩
          · have := ih2.1 x
            show c + _ + p ≤ _ + 1
            omega
          · have := ih2.2 x
            show c + _ + p ≤ _
            omega
        · rename_i e c he
          rw [he] at ih
          exact ⟨fun _ => ih.1 rfl, fun x => absurd rfl x⟩
      · split
        · rename_i ht
          have hlt := (tk_lt ht).1
          have ih := prs_cost (T := T) (n := n) f (k - 4) (p + 1) [] hlt
          have hp := prs_pos (T := T) (n := n) f (k - 4) (p + 1) [] hlt
          split
          · rename_i p2 us c he
            rw [he] at ih hp
            have ih : c + (p + 1) ≤ p2 := ih.2 (by simp)
            have ih2 := prs_cost (T := T) (n := n) f k p2 (ts ++ us ++ [opK (k - 3)]) hp.2
            refine ⟨fun x => ?_, fun x => ?_⟩
            · have := ih2.1 x
              show c + 1 + _ + p ≤ _ + 1
              omega
            · have := ih2.2 x
              show c + 1 + _ + p ≤ _
              omega
          · rename_i e c he
            rw [he] at ih
            have ih : c + (p + 1) ≤ e + 1 := ih.1 rfl
            exact ⟨fun _ => by show c + 1 + p ≤ e + 1; omega, fun x => absurd rfl x⟩
        · exact ⟨fun x => (by cases x), fun _ => by show 0 + p ≤ p; omega⟩
def prR (T : Nat → Nat) (n : Nat) : Nat × Option (List Nat) × Nat := prs T n (8 * n + 4) 3 0 []
theorem prR_cost {T : Nat → Nat} {n : Nat} (hn : n ≤ 40) : (prR T n).2.2 ≤ 41 ∧ (prR T n).1 ≤ n := by
  have h1 := prs_cost (T := T) (n := n) (8 * n + 4) 3 0 [] (Nat.zero_le _)
  have h2 := prs_pos (T := T) (n := n) (8 * n + 4) 3 0 [] (Nat.zero_le _)
  unfold prR
  refine ⟨?_, h2.2⟩
  by_cases e : (prs T n (8 * n + 4) 3 0 []).2.1 = none
  · have := h1.1 e; omega
  · have := h1.2 e; omega
def oParse (σ : Sw) (z : Int32) (T : Nat → Nat) (n : Nat) : Int32 × Sw := match sIx z with
  | none => (Int32.ofInt (-1), σ)
  | some i => match (prR T n).2.1 with
    | none => (Int32.ofInt (-100) - nI (prR T n).1, σ)
    | some us => if (prR T n).1 < n then (Int32.ofInt (-100) - nI (prR T n).1, σ) else match evRs us ([], false) with
      | ([], _) => (nI 0, σ)
      | (v :: _, lg) => if lg then (Int32.ofInt (-6), σ) else (nI v.1, va_up σ.1 i v, va_up σ.2 i 0)
