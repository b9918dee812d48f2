/-! PARSE, mathematics: both evaluations -/
def AllW (st : List Str) : Prop := ∀ s, s ∈ st → WfS s
theorem AllW.cons {s : Str} {st : List Str} (h1 : WfS s) (h2 : AllW st) : AllW (s :: st) := fun x hx => by
  rcases List.mem_cons.mp hx with rfl | h
  · exact h1
  · exact h2 x h
theorem cps_mul {o : Nat} {p q : Str} (hp : WfS p) : q.1 ≤ cps o p * q.1 := by
  have := Nat.mul_le_mul_right q.1 (cps_pos (op := o) hp)
  omega
theorem evC_op {o : Nat} {p q : Str} {Y : List Str} : evC o (q :: p :: Y) = if tot Y + (p.1 + cps o p * q.1) ≤ 8 then some (tgS o p q :: Y) else none := rfl
theorem evR1_2 {t : Nat} {q p : Str} {Y : List Str} {lg : Bool} (h1 : t ≠ 48) (h2 : ¬ (97 ≤ t ∧ t ≤ 102)) : evR1 t (q :: p :: Y, lg) = ((if lg || decide (8 < p.1 + cps t p * q.1) then empS else tgS t p q) :: Y, lg || decide (8 < p.1 + cps t p * q.1)) := by
  unfold evR1
  rw [if_neg h1, if_neg h2]
theorem evR1_0 {X : List Str} {lg : Bool} : evR1 48 (X, lg) = (empS :: X, lg) := rfl
theorem evR1_l {t : Nat} {X : List Str} {lg : Bool} (h : 97 ≤ t ∧ t ≤ 102) : evR1 t (X, lg) = (oneS (t - 97) :: X, lg) := by
  unfold evR1
  rw [if_neg (by omega), if_pos h]
theorem evR1_w {t : Nat} {X : List Str} {lg : Bool} (hX : AllW X) : AllW (evR1 t (X, lg)).1 := by
  by_cases h1 : t = 48
  · subst h1; exact AllW.cons empS_wf hX
  · by_cases h2 : 97 ≤ t ∧ t ≤ 102
    · rw [evR1_l h2]; exact AllW.cons (oneS_wf (by omega)) hX
    · match X, hX with
      | [], hX => unfold evR1; rw [if_neg h1, if_neg h2]; exact hX
      | [q], hX => unfold evR1; rw [if_neg h1, if_neg h2]; exact hX
      | q :: p :: Y, hX =>
        rw [evR1_2 h1 h2]
        have hq := hX q (List.mem_cons_self ..)
        have hp := hX p (List.mem_cons_of_mem _ (List.mem_cons_self ..))
        refine AllW.cons ?_ fun x hx => hX x (List.mem_cons_of_mem _ (List.mem_cons_of_mem _ hx))
        split
        · exact empS_wf
        · rename_i hl
          refine tgS_wf hp hq ?_
          by_cases g : 8 < p.1 + cps t p * q.1
          · rw [decide_eq_true g, Bool.or_true] at hl
            exact absurd rfl hl
          · omega
theorem evR1_big {t : Nat} {X : List Str} {lg : Bool} (hX : AllW X) (h : lg = true ∨ 8 < tot X) : (evR1 t (X, lg)).2 = true ∨ 8 < tot (evR1 t (X, lg)).1 := by
  by_cases h1 : t = 48
  · subst h1
    rcases h with h | h
    · exact Or.inl h
    · refine Or.inr ?_
      show 8 < 0 + tot X
      omega
  · by_cases h2 : 97 ≤ t ∧ t ≤ 102
    · rw [evR1_l h2]
      rcases h with h | h
      · exact Or.inl h
      · refine Or.inr ?_
        show 8 < 1 + tot X
        omega
    · match X, hX, h with
      | [], hX, h => unfold evR1; rw [if_neg h1, if_neg h2]; exact h
      | [q], hX, h => unfold evR1; rw [if_neg h1, if_neg h2]; exact h
      | q :: p :: Y, hX, h =>
        rw [evR1_2 h1 h2]
        have hp := hX p (List.mem_cons_of_mem _ (List.mem_cons_self ..))
        cases hl : (lg || decide (8 < p.1 + cps t p * q.1))
        · refine Or.inr ?_
          have hlg : lg = false := by cases lg; rfl; cases hl
          have h : 8 < tot (q :: p :: Y) := by
            rcases h with h | h
            · rw [hlg] at h; cases h
            · exact h
          have h : 8 < q.1 + (p.1 + tot Y) := h
          have := cps_mul (o := t) (q := q) hp
          show 8 < (p.1 + cps t p * q.1) + tot Y
          omega
        · exact Or.inl rfl
theorem ev_same {t : Nat} {st : List Str} (hW : AllW st) (h8 : tot st ≤ 8) : (∀ st', evC1 t st = some st' → evR1 t (st, false) = (st', false) ∧ tot st' ≤ 8) ∧ (evC1 t st = none → (evR1 t (st, false)).2 = true ∨ 8 < tot (evR1 t (st, false)).1) := by
  by_cases h1 : t = 48
  · subst h1
    refine ⟨fun st' h => ?_, fun h => by cases h⟩
    cases h
    exact ⟨rfl, by show 0 + tot st ≤ 8; omega⟩
  · by_cases h2 : 97 ≤ t ∧ t ≤ 102
    · rw [evR1_l h2]
      unfold evC1
      rw [if_neg h1, if_pos h2]
      split
      · rename_i h3
        refine ⟨fun st' h => ?_, fun h => by cases h⟩
        cases h
        exact ⟨rfl, by show 1 + tot st ≤ 8; omega⟩
      · refine ⟨fun st' h => (by cases h), fun _ => Or.inr ?_⟩
        show 8 < 1 + tot st
        omega
    · have e1 : evC1 t st = evC t st := by unfold evC1; rw [if_neg h1, if_neg h2]
      rw [e1]
      match st, hW, h8 with
      | [], hW, h8 =>
        refine ⟨fun st' h => ?_, fun h => by cases h⟩
        cases h
        refine ⟨?_, h8⟩
        unfold evR1; rw [if_neg h1, if_neg h2]
      | [q], hW, h8 =>
        refine ⟨fun st' h => ?_, fun h => by cases h⟩
        cases h
        refine ⟨?_, h8⟩
        unfold evR1; rw [if_neg h1, if_neg h2]
      | q :: p :: Y, hW, h8 =>
        rw [evR1_2 h1 h2, Bool.false_or, evC_op]
        split
        · rename_i h3
          refine ⟨fun st' h => ?_, fun h => by cases h⟩
          cases h
          have g : ¬ 8 < p.1 + cps t p * q.1 := by omega
          rw [decide_eq_false g, if_neg (by decide)]
          exact ⟨rfl, by show (p.1 + cps t p * q.1) + tot Y ≤ 8; omega⟩
        · rename_i h3
          refine ⟨fun st' h => (by cases h), fun _ => ?_⟩
          by_cases g : 8 < p.1 + cps t p * q.1
          · exact Or.inl (decide_eq_true g)
          · refine Or.inr ?_
            rw [decide_eq_false g, if_neg (by decide)]
            show 8 < (p.1 + cps t p * q.1) + tot Y
            omega
theorem evRs_big : ∀ {us : List Nat} {X : List Str} {lg : Bool}, AllW X → (lg = true ∨ 8 < tot X) → AllW (evRs us (X, lg)).1 ∧ ((evRs us (X, lg)).2 = true ∨ 8 < tot (evRs us (X, lg)).1)
  | [], X, lg, hX, h => ⟨hX, h⟩
  | t :: us, X, lg, hX, h => evRs_big (us := us) (X := (evR1 t (X, lg)).1) (lg := (evR1 t (X, lg)).2) (evR1_w hX) (evR1_big hX h)
theorem evs_same : ∀ {us : List Nat} {st : List Str}, AllW st → tot st ≤ 8 → AllW (evRs us (st, false)).1 ∧ (∀ st', evCs us st = some st' → evRs us (st, false) = (st', false) ∧ tot st' ≤ 8) ∧ (evCs us st = none → (evRs us (st, false)).2 = true ∨ 8 < tot (evRs us (st, false)).1)
  | [], st, hW, h8 => ⟨hW, fun st' h => (by cases h; exact ⟨rfl, h8⟩), fun h => by cases h⟩
  | t :: us, st, hW, h8 => by
    obtain ⟨j1, j2⟩ := ev_same (t := t) hW h8
    have e : evCs (t :: us) st = (evC1 t st).bind fun s => evCs us s := rfl
    have e2 : evRs (t :: us) (st, false) = evRs us (evR1 t (st, false)) := rfl
    have hw := evR1_w (t := t) (lg := false) hW
    rw [e, e2]
    cases h : evC1 t st with
    | none =>
      have := evRs_big (us := us) (X := (evR1 t (st, false)).1) (lg := (evR1 t (st, false)).2) hw (j2 h)
      exact ⟨this.1, fun st' h => (by cases h), fun _ => this.2⟩
    | some s =>
      obtain ⟨k1, k2⟩ := j1 s h
      rw [k1] at hw ⊢
      exact evs_same (us := us) (st := s) hw k2
def OkR (us : List Nat) : Prop := ∀ X lg, ∃ v lg', evRs us (X, lg) = (v :: X, lg')
theorem OkR.op {o : Nat} {ts us : List Nat} (ho : o = 59 ∨ o = 124 ∨ o = 43) (h1 : OkR ts) (h2 : OkR us) : OkR (ts ++ us ++ [o]) := fun X lg => by
  obtain ⟨v, l1, e1⟩ := h1 X lg
  obtain ⟨w, l2, e2⟩ := h2 (v :: X) l1
  rw [evRs_app, evRs_app, e1, e2]
  exact ⟨_, _, evR1_op ho⟩
theorem prs_ok {T : Nat → Nat} {n : Nat} : ∀ f, (∀ k p p2 us c, k ≤ 3 → prs T n f k p [] = (p2, some us, c) → OkR us) ∧ (∀ k p ts p2 us c, 1 ≤ k → k ≤ 3 → OkR ts → prs T n f (k + 3) p ts = (p2, some us, c) → OkR us) := fun f => by
  induction f with
  | zero => exact ⟨fun k p p2 us c _ h => (by cases h), fun k p ts p2 us c _ _ _ h => (by cases h)⟩
  | succ f ih =>
    obtain ⟨ih1, ih2⟩ := ih
    refine ⟨fun k p p2 us c hk hs => ?_, fun k p ts p2 us c hk1 hk3 hT hs => ?_⟩
    · rcases Nat.eq_zero_or_pos k with rfl | hk1
      · cases ht : tkB T n p 40
        · rw [prs0_c ht] at hs
          split at hs
          · cases hs
            exact fun X lg => ⟨_, _, rfl⟩
          · split at hs
            · rename_i hl
              cases hs
              exact fun X lg => ⟨_, _, evR1_l hl.2⟩
            · cases hs
        · obtain ⟨⟨q2, vs?, c1⟩, hs1⟩ : ∃ x, prs T n f 3 (p + 1) [] = x := ⟨_, rfl⟩
          cases vs? with
          | none => rw [prs0_b ht hs1] at hs; cases hs
          | some vs =>
            rw [prs0_a ht hs1] at hs
            split at hs
            · cases hs
              exact ih1 3 (p + 1) q2 us c (by omega) hs1
            · cases hs
      · obtain ⟨⟨q2, vs?, c1⟩, hs1⟩ : ∃ x, prs T n f (k - 1) p [] = x := ⟨_, rfl⟩
        cases vs? with
        | none => rw [prsK_e hk1 hk hs1] at hs; cases hs
        | some vs =>
          rw [prsK_s hk1 hk hs1] at hs
          obtain ⟨⟨r1, r2, r3⟩, hr⟩ : ∃ x, prs T n f (k + 3) q2 vs = x := ⟨_, rfl⟩
          rw [hr] at hs
          cases hs
          exact ih2 k q2 vs _ _ r3 hk1 hk (ih1 (k - 1) p q2 vs c1 (by omega) hs1) hr
    · cases ht : tkB T n p (opK k)
      · rw [prsL_n hk1 ht] at hs
        cases hs
        exact hT
      · obtain ⟨⟨q2, vs?, c1⟩, hs1⟩ : ∃ x, prs T n f (k - 1) (p + 1) [] = x := ⟨_, rfl⟩
        cases vs? with
        | none => rw [prsL_e hk1 ht hs1] at hs; cases hs
        | some vs =>
          rw [prsL_t hk1 ht hs1] at hs
          obtain ⟨⟨r1, r2, r3⟩, hr⟩ : ∃ x, prs T n f (k + 3) q2 (ts ++ vs ++ [opK k]) = x := ⟨_, rfl⟩
          rw [hr] at hs
          cases hs
          exact ih2 k q2 _ _ _ r3 hk1 hk3 (OkR.op (opK_c k) hT (ih1 (k - 1) (p + 1) q2 vs c1 (by omega) hs1)) hr
def AllD (st : List Str) : Prop := ∀ s, s ∈ st → ∀ e, sD s e = 1
theorem AllD.cons {s : Str} {st : List Str} (h1 : ∀ e, sD s e = 1) (h2 : AllD st) : AllD (s :: st) := fun x hx => by
  rcases List.mem_cons.mp hx with rfl | h
  · exact h1
  · exact h2 x h
theorem evR1_d {t : Nat} {X : List Str} {lg : Bool} (hX : AllD X) : AllD (evR1 t (X, lg)).1 := by
  by_cases h1 : t = 48
  · subst h1; exact AllD.cons (fun _ => rfl) hX
  · by_cases h2 : 97 ≤ t ∧ t ≤ 102
    · rw [evR1_l h2]; exact AllD.cons (fun _ => rfl) hX
    · match X, hX with
      | [], hX => unfold evR1; rw [if_neg h1, if_neg h2]; exact hX
      | [q], hX => unfold evR1; rw [if_neg h1, if_neg h2]; exact hX
      | q :: p :: Y, hX =>
        rw [evR1_2 h1 h2]
        refine AllD.cons ?_ fun x hx => hX x (List.mem_cons_of_mem _ (List.mem_cons_of_mem _ hx))
        split
        · exact fun _ => rfl
        · exact fun _ => rfl
theorem evRs_d : ∀ {us : List Nat} {X : List Str} {lg : Bool}, AllD X → AllD (evRs us (X, lg)).1
  | [], X, lg, hX => hX
  | t :: us, X, lg, hX => evRs_d (us := us) (X := (evR1 t (X, lg)).1) (lg := (evR1 t (X, lg)).2) (evR1_d hX)
/-- both parse alike: what the class builds, what the reference answers -/
theorem parse_eq {T : Nat → Nat} {n : Nat} {σ : Sw} {i : Nat} (hi : i < 2) : (∃ e, erP T n = some e ∧ e ≤ n ∧ oParse σ (nI i) T n = (Int32.ofInt (-100) - nI e, σ)) ∨ (erP T n = none ∧ ((evT T n = none ∧ oParse σ (nI i) T n = (Int32.ofInt (-6), σ)) ∨ ∃ v, evT T n = some ([], [v]) ∧ WfS v ∧ (∀ e, sD v e = 1) ∧ oParse σ (nI i) T n = (nI v.1, va_up σ.1 i v, va_up σ.2 i 0))) := by
  have hs : sIx (nI i) = some i := by
    have : i = 0 ∨ i = 1 := by omega
    rcases this with rfl | rfl <;> rfl
  have oP : oParse σ (nI i) T n = match (prR T n).2.1 with
      | none => (Int32.ofInt (-100) - nI (prR T n).1, σ)
      | some us => if (prR T n).1 < n then (Int32.ofInt (-100) - nI (prR T n).1, σ) else match evRs us ([], false) with
        | ([], _) => (nI 0, σ)
        | (v :: _, lg) => if lg then (Int32.ofInt (-6), σ) else (nI v.1, va_up σ.1 i v, va_up σ.2 i 0) := by
    unfold oParse; rw [hs]; rfl
  have hle : (prR T n).1 ≤ n := (prs_pos (T := T) (n := n) (8 * n + 4) 3 0 [] (Nat.zero_le _)).2
  rcases erP_eq (T := T) (n := n) with ⟨h1, h2⟩ | ⟨h1, h2, h3⟩
  · refine Or.inl ⟨_, h1, hle, ?_⟩
    rw [oP]
    cases hu : (prR T n).2.1 with
    | none => rfl
    | some us =>
      have h2 : (prR T n).1 < n := by
        rcases h2 with h2 | h2
        · rw [h2] at hu; cases hu
        · exact h2
      show (if _ then _ else _) = _
      rw [if_pos h2]
  · refine Or.inr ⟨h1, ?_⟩
    cases hu : (prR T n).2.1 with
    | none => exact absurd hu h2
    | some us =>
      rw [hu] at oP
      have oP : oParse σ (nI i) T n = if (prR T n).1 < n then (Int32.ofInt (-100) - nI (prR T n).1, σ) else match evRs us ([], false) with
        | ([], _) => (nI 0, σ)
        | (v :: _, lg) => if lg then (Int32.ofInt (-6), σ) else (nI v.1, va_up σ.1 i v, va_up σ.2 i 0) := oP
      rw [if_neg (by omega)] at oP
      obtain ⟨k1, -⟩ := evT_eq hu h3
      obtain ⟨⟨r1, r2, r3⟩, hr⟩ : ∃ x, prR T n = x := ⟨_, rfl⟩
      have hr' : prR T n = (r1, some us, r3) := by rw [hr] at hu ⊢; cases hu; rfl
      obtain ⟨v, lg, hv⟩ := (prs_ok (T := T) (n := n) (8 * n + 4)).1 3 0 r1 us r3 (by omega) hr' [] false
      obtain ⟨w1, w2, w3⟩ := evs_same (us := us) (st := []) (fun s hs => by cases hs) (Nat.zero_le _)
      have hdv := evRs_d (us := us) (X := []) (lg := false) (fun s hs => by cases hs)
      rw [hv] at w1 w2 w3 oP hdv
      have hdw : ∀ e, sD v e = 1 := hdv v (List.mem_cons_self ..)
      have hwf : WfS v := w1 v (List.mem_cons_self ..)
      have oP : oParse σ (nI i) T n = if lg then (Int32.ofInt (-6), σ) else (nI v.1, va_up σ.1 i v, va_up σ.2 i 0) := oP
      rw [k1]
      cases hc : evCs us [] with
      | none =>
        refine Or.inl ⟨rfl, ?_⟩
        have hlg : lg = true := by
          rcases w3 hc with h | h
          · exact h
          · have h : 8 < v.1 + 0 := h
            have := hwf.1
            omega
        rw [oP, if_pos hlg]
      | some st' =>
        obtain ⟨x1, -⟩ := w2 st' hc
        cases x1
        exact Or.inr ⟨v, rfl, hwf, hdw, oP⟩
