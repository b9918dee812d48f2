/-! WORDS: the first word that is possible on one side only, pure -/
def fstL {α : Type} (f : Nat → Option α) : Nat → Option α
  | 0 => none
  | n + 1 => match fstL f n with | some v => some v | none => f n
theorem fst_y {α : Type} {f : Nat → Option α} {n : Nat} {v : α} (h : fstL f n = some v) : fstL f (n + 1) = some v := by
  simp only [fstL, h]
theorem fst_n {α : Type} {f : Nat → Option α} {n : Nat} (h : fstL f n = none) : fstL f (n + 1) = f n := by
  simp only [fstL, h]
theorem fst_up {α : Type} {f : Nat → Option α} {n m : Nat} {v : α} (h : fstL f n = some v) : fstL f (n + m) = some v := by
  induction m with
  | zero => exact h
  | succ m ih => exact fst_y ih
theorem fst_cong {α : Type} {f g : Nat → Option α} : ∀ {n : Nat}, (∀ l, l < n → f l = g l) → fstL f n = fstL g n
  | 0, _ => rfl
  | n + 1, h => by
    simp only [fstL, fst_cong (n := n) fun l hl => h l (by omega), h n (by omega)]
theorem fst_in {α : Type} {f : Nat → Option α} {v : α} : ∀ {n : Nat}, fstL f n = some v → ∃ l, l < n ∧ f l = some v
  | 0, h => by cases h
  | n + 1, h => by
    cases hz : fstL f n with
    | none =>
      rw [fst_n hz] at h
      exact ⟨n, by omega, h⟩
    | some u =>
      rw [fst_y hz] at h
      cases h
      obtain ⟨l, h1, h2⟩ := fst_in hz
      exact ⟨l, by omega, h2⟩
noncomputable def dS (S : Nat → Str) (D : Fr → Option (List Nat)) (z : Bool) (F : Fr) (l : Nat) : Option (List Nat) := if bP (neA (sdF (stF S F l) 0)) = bP (neA (sdF (stF S F l) 1)) then (if bP (neA (sdF (stF S F l) 0)) then (D (stF S F l)).map (fun v => l :: v) else none) else (if z then some [l] else none)
noncomputable def dW (S : Nat → Str) : Nat → Fr → Option (List Nat)
  | 0, _ => none
  | k + 1, F => fstL (dS S (dW S k) (decide (k = 0)) F) 6
noncomputable def dL (S : Nat → Str) (k : Nat) (F : Fr) (l : Nat) : Option (List Nat) := fstL (dS S (dW S k) (decide (k = 0)) F) l
theorem dW_len {S : Nat → Str} : ∀ {k : Nat} {F : Fr} {v : List Nat}, dW S k F = some v → v.length = k
  | 0, F, v, h => by cases h
  | k + 1, F, v, h => by
    obtain ⟨l, h1, h2⟩ := fst_in (show fstL _ 6 = some v from h)
    unfold dS at h2
    split at h2
    · split at h2
      · rw [Option.map_eq_some_iff] at h2
        obtain ⟨u, h3, rfl⟩ := h2
        rw [List.length_cons, dW_len h3]
      · cases h2
    · split at h2
      · rename_i hk
        cases h2
        have := of_decide_eq_true hk
        subst this
        rfl
      · cases h2
/-- what a search from a front at depth d has found: before sh, DF, after sh', DF' -/
def SkR (S : Nat → Str) (d : Nat) (F : Fr) (w : List Nat) (sh : Nat) (DF : Nat → Int32) (sh' : Nat) (DF' : Nat → Int32) : Prop := (∀ k, dW S k F ≠ none → sh' ≤ d + k) ∧ ((sh' = sh ∧ DF' = DF) ∨ ∃ k v, dW S k F = some v ∧ sh' = d + k ∧ sh' < sh ∧ ∀ j, j < sh' → DF' j = nI ((w ++ v).getD j 0))
def LpR (S : Nat → Str) (d : Nat) (F : Fr) (w : List Nat) (sh : Nat) (DF : Nat → Int32) (l sh' : Nat) (DF' : Nat → Int32) : Prop := (∀ k, dL S k F l ≠ none → sh' ≤ d + (k + 1)) ∧ ((sh' = sh ∧ DF' = DF) ∨ ∃ k v, dL S k F l = some v ∧ sh' = d + (k + 1) ∧ sh' < sh ∧ ∀ j, j < sh' → DF' j = nI ((w ++ v).getD j 0))
theorem LpR.zero {S : Nat → Str} {d : Nat} {F : Fr} {w : List Nat} {sh : Nat} {DF : Nat → Int32} : LpR S d F w sh DF 0 sh DF := ⟨fun k h => absurd rfl h, Or.inl ⟨rfl, rfl⟩⟩
theorem LpR.le {S : Nat → Str} {d : Nat} {F : Fr} {w : List Nat} {sh l sh' : Nat} {DF DF' : Nat → Int32} (h : LpR S d F w sh DF l sh' DF') : sh' ≤ sh := by
  rcases h.2 with h | ⟨k, v, -, -, h, -⟩ <;> omega
theorem SkR.le {S : Nat → Str} {d : Nat} {F : Fr} {w : List Nat} {sh sh' : Nat} {DF DF' : Nat → Int32} (h : SkR S d F w sh DF sh' DF') : sh' ≤ sh := by
  rcases h.2 with h | ⟨k, v, -, -, h, -⟩ <;> omega
theorem LpR.fin {S : Nat → Str} {d : Nat} {F : Fr} {w : List Nat} {sh l sh' : Nat} {DF DF' : Nat → Int32} (h : LpR S d F w sh DF l sh' DF') (hl : l = 6 ∨ l ≤ 6 ∧ sh' ≤ d + 1) : SkR S d F w sh DF sh' DF' := by
  refine ⟨fun k hk => ?_, ?_⟩
  · cases k with
    | zero => exact absurd rfl hk
    | succ k =>
      rcases hl with rfl | hl
      · exact h.1 k hk
      · omega
  · rcases h.2 with h2 | ⟨k, v, h1, h2, h3, h4⟩
    · exact Or.inl h2
    · refine Or.inr ⟨k + 1, v, ?_, h2, h3, h4⟩
      have := fst_up (m := 6 - l) (show fstL _ l = some v from h1)
      rw [show l + (6 - l) = 6 by omega] at this
      exact this
theorem LpR.no {S : Nat → Str} {d : Nat} {F : Fr} {w : List Nat} {sh l sh' : Nat} {DF DF' : Nat → Int32} (h : LpR S d F w sh DF l sh' DF') (h0 : bP (neA (sdF (stF S F l) 0)) = false) (h1 : bP (neA (sdF (stF S F l) 1)) = false) : LpR S d F w sh DF (l + 1) sh' DF' := by
  have e : ∀ k, dL S k F (l + 1) = dL S k F l := fun k => by
    unfold dL
    cases hz : fstL (dS S (dW S k) (decide (k = 0)) F) l with
    | none =>
      rw [fst_n hz]
      unfold dS
      rw [h0, h1, if_pos rfl, if_neg (by decide)]
    | some v => exact fst_y hz
  unfold LpR
  simp only [e]
  exact h
theorem LpR.dif {S : Nat → Str} {d : Nat} {F : Fr} {w : List Nat} {sh l sh' : Nat} {DF DF' DF2 : Nat → Int32} (h : LpR S d F w sh DF l sh' DF') (h0 : bP (neA (sdF (stF S F l) 0)) ≠ bP (neA (sdF (stF S F l) 1))) (hlt : d + 1 < sh') (hD : ∀ j, j < d + 1 → DF2 j = nI ((w ++ [l]).getD j 0)) : LpR S d F w sh DF (l + 1) (d + 1) DF2 := by
  have hle := h.le
  refine ⟨fun k _ => by omega, Or.inr ⟨0, [l], ?_, rfl, by omega, hD⟩⟩
  have hz : fstL (dS S (dW S 0) (decide (0 = 0)) F) l = none := by
    cases hz : fstL (dS S (dW S 0) (decide (0 = 0)) F) l with
    | none => rfl
    | some v =>
      have := h.1 0 (by unfold dL; rw [hz]; simp)
      omega
  unfold dL
  rw [fst_n hz]
  unfold dS
  rw [if_neg h0]
  rfl
theorem LpR.rec {S : Nat → Str} {d : Nat} {F : Fr} {w : List Nat} {sh l sh' sh2 : Nat} {DF DF' DF2 : Nat → Int32} (h : LpR S d F w sh DF l sh' DF') (h0 : bP (neA (sdF (stF S F l) 0)) = true) (h1 : bP (neA (sdF (stF S F l) 1)) = true) (hr : SkR S (d + 1) (stF S F l) (w ++ [l]) sh' DF' sh2 DF2) : LpR S d F w sh DF (l + 1) sh2 DF2 := by
  have hle := h.le
  have hle2 := hr.le
  have e : ∀ k, dS S (dW S k) (decide (k = 0)) F l = (dW S k (stF S F l)).map (fun v => l :: v) := fun k => by
    unfold dS
    rw [h0, h1, if_pos rfl, if_pos rfl]
  refine ⟨fun k hk => ?_, ?_⟩
  · unfold dL at hk
    cases hz : fstL (dS S (dW S k) (decide (k = 0)) F) l with
    | none =>
      rw [fst_n hz, e k] at hk
      have := hr.1 k (fun q => hk (by rw [q]; rfl))
      omega
    | some v =>
      have := h.1 k (by unfold dL; rw [hz]; simp)
      omega
  · rcases hr.2 with ⟨r1, r2⟩ | ⟨k, v, r1, r2, r3, r4⟩
    · subst r1
      subst r2
      rcases h.2 with h2 | ⟨k, v, g1, g2, g3, g4⟩
      · exact Or.inl h2
      · exact Or.inr ⟨k, v, fst_y g1, g2, g3, g4⟩
    · refine Or.inr ⟨k, l :: v, ?_, by omega, by omega, fun j hj => ?_⟩
      · have hz : fstL (dS S (dW S k) (decide (k = 0)) F) l = none := by
          cases hz : fstL (dS S (dW S k) (decide (k = 0)) F) l with
          | none => rfl
          | some u =>
            have := h.1 k (by unfold dL; rw [hz]; simp)
            omega
        unfold dL
        rw [fst_n hz, e k, r1]
        rfl
      · rw [r4 j hj, List.append_assoc]
        rfl
def GD (S : Nat → Str) (P : Fr → Prop) (sh : Nat) (F : Fr) (_ : Int32) : Prop := P F ∨ ∀ d, dpF S F d → ∀ k, dW S k F ≠ none → sh ≤ d + k
theorem GD.mono {S : Nat → Str} {P : Fr → Prop} {sh sh' : Nat} (hs : sh' ≤ sh) : ∀ F v, GD S P sh F v → GD S P sh' F v := fun F v h => h.imp id fun h d hd k hk => by
  have := h d hd k hk
  omega
theorem bx_tt : icm .ne (b2i true) (b2i true) = false := rfl
theorem bx_tf : icm .ne (b2i true) (b2i false) = true := rfl
theorem bx_ft : icm .ne (b2i false) (b2i true) = true := rfl
theorem bx_ff : icm .ne (b2i false) (b2i false) = false := rfl
