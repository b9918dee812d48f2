/-! PARSE, mathematics: the position of an error -/
def GoodA (T : Nat → Nat) (n j d p : Nat) : Prop := p ≤ n ∧ autN T p = some (d, false) ∧ (p < n → ∀ i, 1 ≤ i → i ≤ j → T p ≠ opK i)
def BadA (T : Nat → Nat) (n e : Nat) : Prop := e ≤ n ∧ ∃ s, autN T e = some s ∧ ((e < n ∧ autS (T e) s = none) ∨ (e = n ∧ (s.2 = true ∨ 0 < s.1)))
theorem aut_s {T : Nat → Nat} {p : Nat} {s s' : Nat × Bool} (h : autN T p = some s) (h2 : autS (T p) s = some s') : autN T (p + 1) = some s' := by
  simp only [autN, h, h2]
theorem prs0_a {T : Nat → Nat} {n f p p2 c : Nat} {us : List Nat} (x : tkB T n p 40 = true) (e : prs T n f 3 (p + 1) [] = (p2, some us, c)) : prs T n (f + 1) 0 p [] = if tkB T n p2 41 then (p2 + 1, some us, c) else (p2, none, c) := by
  rw [prs, if_pos rfl, if_pos x]; simp only [e]
theorem prs0_b {T : Nat → Nat} {n f p e c : Nat} (x : tkB T n p 40 = true) (y : prs T n f 3 (p + 1) [] = (e, none, c)) : prs T n (f + 1) 0 p [] = (e, none, c) := by
  rw [prs, if_pos rfl, if_pos x]; simp only [y]
theorem prs0_c {T : Nat → Nat} {n f p : Nat} (x : tkB T n p 40 = false) : prs T n (f + 1) 0 p [] = if tkB T n p 48 then (p + 1, some [48], 1) else if p < n ∧ 97 ≤ T p ∧ T p ≤ 102 then (p + 1, some [T p], 1) else (p, none, 1) := by
  rw [prs, if_pos rfl, if_neg (by rw [x]; decide)]
theorem rk_opK {i : Nat} : 0 < rk (opK i) := by rcases opK_c i with h | h | h <;> rw [h] <;> decide
theorem op_ne {i : Nat} : opK i ≠ 41 ∧ opK i ≠ 40 := by rcases opK_c i with h | h | h <;> rw [h] <;> decide
theorem rk_no {c : Nat} (h : ∀ i, 1 ≤ i → i ≤ 3 → c ≠ opK i) : rk c = 0 := by
  have h1 : c ≠ 59 := h 1 (by omega) (by omega)
  have h2 : c ≠ 124 := h 2 (by omega) (by omega)
  have h3 : c ≠ 43 := h 3 (by omega) (by omega)
  unfold rk
  rw [if_neg h3, if_neg h2, if_neg h1]
theorem tk_no {T : Nat → Nat} {n p c : Nat} (h : tkB T n p c = false) (hp : p < n) : T p ≠ c := by
  unfold tkB at h
  rw [decide_eq_true hp, Bool.true_and, decide_eq_false_iff_not] at h
  exact h
theorem prs_aut {T : Nat → Nat} {n : Nat} : ∀ f, (∀ k p d, k ≤ 3 → p ≤ n → 8 * (n - p) + k + 1 ≤ f → autN T p = some (d, true) → ((prs T n f k p []).2.1 ≠ none → GoodA T n k d (prs T n f k p []).1) ∧ ((prs T n f k p []).2.1 = none → BadA T n (prs T n f k p []).1)) ∧ (∀ k p d ts, 1 ≤ k → k ≤ 3 → 8 * (n - p) + 1 ≤ f → GoodA T n (k - 1) d p → ((prs T n f (k + 3) p ts).2.1 ≠ none → GoodA T n k d (prs T n f (k + 3) p ts).1) ∧ ((prs T n f (k + 3) p ts).2.1 = none → BadA T n (prs T n f (k + 3) p ts).1)) := fun f => by
  induction f with
  | zero => exact ⟨fun k p d _ _ h => by omega, fun k p d ts _ _ h => by omega⟩
  | succ f ih =>
    obtain ⟨ih1, ih2⟩ := ih
    refine ⟨fun k p d hk hp hf ha => ?_, fun k p d ts hk1 hk3 hf hG => ?_⟩
    · rcases Nat.eq_zero_or_pos k with rfl | hk1
      · cases ht : tkB T n p 40
        · rw [prs0_c ht]
          cases hz : tkB T n p 48
          · rw [if_neg (by decide)]
            split
            · rename_i hl
              refine ⟨fun _ => ⟨hl.1, aut_s ha ?_, fun _ i h1 h2 => by omega⟩, fun x => by cases x⟩
              have hat : atB (T p) = true := by
                unfold atB
                rw [decide_eq_true hl.2.1, decide_eq_true (show T p < 103 by omega), Bool.and_self, Bool.or_true]
              unfold autS
              rw [if_neg (by omega), if_pos ⟨rfl, hat⟩]
            · rename_i hl
              refine ⟨fun x => absurd rfl x, fun _ => ⟨hp, (d, true), ha, ?_⟩⟩
              by_cases hpn : p < n
              · refine Or.inl ⟨hpn, ?_⟩
                have n1 := tk_no ht hpn
                have n2 := tk_no hz hpn
                have hat : atB (T p) = false := by
                  unfold atB
                  rw [decide_eq_false n2, Bool.false_or]
                  by_cases g : 97 ≤ T p
                  · rw [decide_eq_false (show ¬ T p < 103 by omega), Bool.and_false]
                  · rw [decide_eq_false g, Bool.false_and]
                unfold autS
                rw [if_neg (fun q => n1 q.2), if_neg (fun q => by rw [hat] at q; exact absurd q.2 (by decide)), if_neg (fun q => absurd q.1 (by simp)), if_neg (fun q => absurd q.1 (by simp))]
              · exact Or.inr ⟨by show p = n; omega, Or.inl rfl⟩
          · rw [if_pos rfl]
            obtain ⟨h1, h2⟩ := tk_lt hz
            refine ⟨fun _ => ⟨h1, aut_s ha ?_, fun _ i h1 h2 => by omega⟩, fun x => by cases x⟩
            rw [h2]
            rfl
        · obtain ⟨h1, h2⟩ := tk_lt ht
          have ha1 : autN T (p + 1) = some (d + 1, true) := aut_s ha (by rw [h2]; rfl)
          obtain ⟨j1, j2⟩ := ih1 3 (p + 1) (d + 1) (by omega) h1 (by omega) ha1
          obtain ⟨⟨p2, us?, c⟩, hs⟩ : ∃ x, prs T n f 3 (p + 1) [] = x := ⟨_, rfl⟩
          rw [hs] at j1 j2
          cases us? with
          | none =>
            rw [prs0_b ht hs]
            exact ⟨fun x => absurd rfl x, fun _ => j2 rfl⟩
          | some us =>
            obtain ⟨g1, g2, g3⟩ := j1 (by simp)
            have g1 : p2 ≤ n := g1
            rw [prs0_a ht hs]
            cases hz : tkB T n p2 41
            · rw [if_neg (by decide)]
              refine ⟨fun x => absurd rfl x, fun _ => ⟨g1, (d + 1, false), g2, ?_⟩⟩
              by_cases hpn : p2 < n
              · refine Or.inl ⟨hpn, ?_⟩
                have n1 := tk_no hz hpn
                have hr : rk (T p2) = 0 := rk_no (g3 hpn)
                unfold autS
                show (if false = true ∧ _ then _ else if false = true ∧ _ then _ else if false = false ∧ T p2 = 41 ∧ _ then _ else if false = false ∧ 0 < rk (T p2) then _ else _) = _
                rw [if_neg (fun q => absurd q.1 (by simp)), if_neg (fun q => absurd q.1 (by simp)), if_neg (fun q => n1 q.2.1), if_neg (fun q => by rw [hr] at q; omega)]
              · exact Or.inr ⟨by show p2 = n; omega, Or.inr (Nat.succ_pos _)⟩
            · rw [if_pos rfl]
              obtain ⟨z1, z2⟩ := tk_lt hz
              refine ⟨fun _ => ⟨z1, aut_s g2 ?_, fun _ i h1 h2 => by omega⟩, fun x => by cases x⟩
              rw [z2]
              unfold autS
              rw [if_neg (fun q => absurd q.1 (by simp)), if_neg (fun q => absurd q.1 (by simp)), if_pos ⟨rfl, rfl, Nat.succ_pos _⟩]
              rfl
      · obtain ⟨j1, j2⟩ := ih1 (k - 1) p d (by omega) hp (by omega) ha
        have hpp := prs_pos (T := T) (n := n) f (k - 1) p [] hp
        obtain ⟨⟨p2, us?, c⟩, hs⟩ : ∃ x, prs T n f (k - 1) p [] = x := ⟨_, rfl⟩
        rw [hs] at j1 j2 hpp
        have hpp : p ≤ p2 ∧ p2 ≤ n := hpp
        cases us? with
        | none =>
          rw [prsK_e hk1 hk hs]
          exact ⟨fun x => absurd rfl x, fun _ => j2 rfl⟩
        | some us =>
          rw [prsK_s hk1 hk hs]
          exact ih2 k p2 d us hk1 hk (by omega) (j1 (by simp))
    · obtain ⟨g1, g2, g3⟩ := hG
      cases ht : tkB T n p (opK k)
      · rw [prsL_n hk1 ht]
        refine ⟨fun _ => ⟨g1, g2, fun hpn i h1 h2 => ?_⟩, fun x => by cases x⟩
        by_cases e : i = k
        · subst e; exact tk_no ht hpn
        · exact g3 hpn i h1 (by omega)
      · obtain ⟨h1, h2⟩ := tk_lt ht
        have ha1 : autN T (p + 1) = some (d, true) := aut_s g2 (by
          rw [h2]
          unfold autS
          rw [if_neg (fun q => absurd q.1 (by simp)), if_neg (fun q => absurd q.1 (by simp)), if_neg (fun q => op_ne.1 q.2.1), if_pos ⟨rfl, rk_opK⟩])
        obtain ⟨j1, j2⟩ := ih1 (k - 1) (p + 1) d (by omega) h1 (by omega) ha1
        have hpp := prs_pos (T := T) (n := n) f (k - 1) (p + 1) [] h1
        obtain ⟨⟨p2, us?, c⟩, hs⟩ : ∃ x, prs T n f (k - 1) (p + 1) [] = x := ⟨_, rfl⟩
        rw [hs] at j1 j2 hpp
        have hpp : p + 1 ≤ p2 ∧ p2 ≤ n := hpp
        cases us? with
        | none =>
          rw [prsL_e hk1 ht hs]
          exact ⟨fun x => absurd rfl x, fun _ => j2 rfl⟩
        | some us =>
          rw [prsL_t hk1 ht hs]
          exact ih2 k p2 d _ hk1 hk3 (by omega) (j1 (by simp))
/-- the class's error position out of the parser -/
theorem bad_err {T : Nat → Nat} {n e : Nat} (h : BadA T n e) : erP T n = some e := by
  obtain ⟨h1, s, h2, h3⟩ := h
  have h4 := aut_no h2
  unfold erP
  rcases h3 with ⟨h5, h6⟩ | ⟨h5, h6⟩
  · have h7 : erF T e = some e := by
      unfold erF; rw [h2]; dsimp only; rw [h6]
    have h8 : fstL (erF T) (e + 1) = some e := by rw [fst_n h4, h7]
    have h9 := fst_up (m := n - (e + 1)) h8
    rw [show e + 1 + (n - (e + 1)) = n by omega] at h9
    rw [h9]
  · subst h5
    rw [h4]
    dsimp only
    rw [h2]
    dsimp only
    rw [if_pos h6]
theorem erP_eq {T : Nat → Nat} {n : Nat} : (erP T n = some (prR T n).1 ∧ ((prR T n).2.1 = none ∨ (prR T n).1 < n)) ∨ (erP T n = none ∧ (prR T n).2.1 ≠ none ∧ (prR T n).1 = n) := by
  obtain ⟨j1, j2⟩ := (prs_aut (T := T) (n := n) (8 * n + 4)).1 3 0 0 (by omega) (Nat.zero_le _) (by omega) rfl
  have j1 : (prR T n).2.1 ≠ none → GoodA T n 3 0 (prR T n).1 := j1
  have j2 : (prR T n).2.1 = none → BadA T n (prR T n).1 := j2
  by_cases h : (prR T n).2.1 = none
  · exact Or.inl ⟨bad_err (j2 h), Or.inl h⟩
  · obtain ⟨g1, g2, g3⟩ := j1 h
    by_cases hpn : (prR T n).1 < n
    · refine Or.inl ⟨bad_err ⟨g1, (0, false), g2, Or.inl ⟨hpn, ?_⟩⟩, Or.inr hpn⟩
      have hr : rk (T (prR T n).1) = 0 := rk_no (g3 hpn)
      unfold autS
      rw [if_neg (fun q => absurd q.1 (by simp)), if_neg (fun q => absurd q.1 (by simp)), if_neg (fun q => absurd q.2.2 (by simp)), if_neg (fun q => by rw [hr] at q; omega)]
    · have he : (prR T n).1 = n := by omega
      refine Or.inr ⟨?_, h, he⟩
      rw [he] at g2
      unfold erP
      rw [aut_no g2]
      dsimp only
      rw [g2]
      dsimp only
      rw [if_neg (by simp)]
