/-! WORDS of the reference: layers, pure -/
abbrev Lay : Type := Nat × (Nat → Fr) × (Nat → List Nat) × (Nat → Nat)
abbrev lyN (L : Lay) : Nat := L.1
abbrev lyF (L : Lay) : Nat → Fr := L.2.1
abbrev lyW (L : Lay) : Nat → List Nat := L.2.2.1
abbrev lyC (L : Lay) : Nat → Nat := L.2.2.2
def L0 : Lay := (0, fun _ _ => False, fun _ => [], fun _ => 0)
noncomputable def fndL (L : Lay) (F : Fr) : Option Nat := fstL (fun i => if bP (lyF L i = F) then some i else none) (lyN L)
noncomputable def adL (L : Lay) (F : Fr) (v : List Nat) (c : Nat) : Lay := match fndL L F with
  | some i => (lyN L, lyF L, lyW L, va_up (lyC L) i (lyC L i + c))
  | none => (lyN L + 1, va_up (lyF L) (lyN L) F, va_up (lyW L) (lyN L) v, va_up (lyC L) (lyN L) c)
noncomputable def hasN (F : Fr) : Nat := (if bP (neA (sdF F 0)) then 1 else 0) + (if bP (neA (sdF F 1)) then 2 else 0)
abbrev MSt : Type := Option (List Nat) × Lay × Nat
/-- one entry: the labels below l -/
noncomputable def mcL (S : Nat → Str) (df : Bool) (F : Fr) (v : List Nat) (c : Nat) (t : Lay) (W : Nat) : Nat → MSt
  | 0 => (none, t, W)
  | l + 1 => match mcL S df F v c t W l with
    | (some r, t', W') => (some r, t', W')
    | (none, t', W') => if df && (decide (hasN (stF S F l) = 1) || decide (hasN (stF S F l) = 2)) then (some (v ++ [l]), t', W') else if hasN (stF S F l) = 0 then (none, t', W') else (none, adL t' (stF S F l) (v ++ [l]) (if df then 1 else c), W' + c)
/-- one layer: the entries below i -/
noncomputable def mcE (S : Nat → Str) (df : Bool) (A : Lay) (W : Nat) : Nat → MSt
  | 0 => (none, L0, W)
  | i + 1 => match mcE S df A W i with
    | (some r, t, W') => (some r, t, W')
    | (none, t, W') => mcL S df (lyF A i) (lyW A i) (lyC A i) t W' 6
/-- all layers, with the largest sizes of the two -/
noncomputable def mcD (S : Nat → Str) (df : Bool) (F0 : Fr) : Nat → Option (List Nat) × Lay × Nat × (Nat → Nat)
  | 0 => (none, (1, fun _ => F0, fun _ => [], fun _ => 1), 1, fun y => if y = 0 then 1 else 0)
  | d + 1 => match mcD S df F0 d with
    | (some r, L, W, M) => (some r, L, W, M)
    | (none, L, W, M) => ((mcE S df L W (lyN L)).1, (mcE S df L W (lyN L)).2.1, (mcE S df L W (lyN L)).2.2, va_up M (1 - d % 2) (max (M (1 - d % 2)) (lyN (mcE S df L W (lyN L)).2.1)))
theorem mcL_s {S : Nat → Str} {df : Bool} {F : Fr} {v : List Nat} {c W l : Nat} {t t' : Lay} {W' : Nat} (h : mcL S df F v c t W l = (none, t', W')) : mcL S df F v c t W (l + 1) = if df && (decide (hasN (stF S F l) = 1) || decide (hasN (stF S F l) = 2)) then (some (v ++ [l]), t', W') else if hasN (stF S F l) = 0 then (none, t', W') else (none, adL t' (stF S F l) (v ++ [l]) (if df then 1 else c), W' + c) := by
  simp only [mcL, h]
theorem mcL_k {S : Nat → Str} {df : Bool} {F : Fr} {v : List Nat} {c W l : Nat} {t t' : Lay} {W' : Nat} {r : List Nat} (h : mcL S df F v c t W l = (some r, t', W')) : ∀ m, mcL S df F v c t W (l + m) = (some r, t', W')
  | 0 => h
  | m + 1 => by
    have := mcL_k h m
    show mcL S df F v c t W (l + m + 1) = _
    simp only [mcL, this]
theorem mcE_s {S : Nat → Str} {df : Bool} {A t : Lay} {W W' i : Nat} (h : mcE S df A W i = (none, t, W')) : mcE S df A W (i + 1) = mcL S df (lyF A i) (lyW A i) (lyC A i) t W' 6 := by
  simp only [mcE, h]
theorem mcE_k {S : Nat → Str} {df : Bool} {A t : Lay} {W W' i : Nat} {r : List Nat} (h : mcE S df A W i = (some r, t, W')) : ∀ m, mcE S df A W (i + m) = (some r, t, W')
  | 0 => h
  | m + 1 => by
    have := mcE_k h m
    show mcE S df A W (i + m + 1) = _
    simp only [mcE, this]
theorem mcD_s {S : Nat → Str} {df : Bool} {F0 : Fr} {d W : Nat} {L : Lay} {M : Nat → Nat} (h : mcD S df F0 d = (none, L, W, M)) : mcD S df F0 (d + 1) = ((mcE S df L W (lyN L)).1, (mcE S df L W (lyN L)).2.1, (mcE S df L W (lyN L)).2.2, va_up M (1 - d % 2) (max (M (1 - d % 2)) (lyN (mcE S df L W (lyN L)).2.1))) := by
  simp only [mcD, h]
theorem mcD_k {S : Nat → Str} {df : Bool} {F0 : Fr} {d W : Nat} {L : Lay} {M : Nat → Nat} {r : List Nat} (h : mcD S df F0 d = (some r, L, W, M)) : ∀ m, mcD S df F0 (d + m) = (some r, L, W, M)
  | 0 => h
  | m + 1 => by
    have := mcD_k h m
    show mcD S df F0 (d + m + 1) = _
    simp only [mcD, this]
theorem ad_n {L : Lay} {F : Fr} {v : List Nat} {c : Nat} : lyN (adL L F v c) = if (fndL L F).isSome then lyN L else lyN L + 1 := by
  unfold adL
  cases fndL L F <;> rfl
theorem ad_le {L : Lay} {F : Fr} {v : List Nat} {c : Nat} : lyN L ≤ lyN (adL L F v c) := by
  rw [ad_n]
  split <;> omega
theorem mcL_mono {S : Nat → Str} {df : Bool} {F : Fr} {v : List Nat} {c W : Nat} {t : Lay} : ∀ {l m : Nat}, lyN (mcL S df F v c t W l).2.1 ≤ lyN (mcL S df F v c t W (l + m)).2.1
  | l, 0 => Nat.le_refl _
  | l, m + 1 => by
    refine Nat.le_trans (mcL_mono (l := l) (m := m)) ?_
    show _ ≤ lyN (mcL S df F v c t W (l + m + 1)).2.1
    rcases hz : mcL S df F v c t W (l + m) with ⟨r, t', W'⟩
    cases r with
    | some r => rw [mcL_k hz 1]; exact Nat.le_refl _
    | none =>
      rw [mcL_s hz]
      split
      · exact Nat.le_refl _
      · split
        · exact Nat.le_refl _
        · exact ad_le
theorem mcE_mono {S : Nat → Str} {df : Bool} {A : Lay} {W : Nat} : ∀ {i m : Nat}, lyN (mcE S df A W i).2.1 ≤ lyN (mcE S df A W (i + m)).2.1
  | i, 0 => Nat.le_refl _
  | i, m + 1 => by
    refine Nat.le_trans (mcE_mono (i := i) (m := m)) ?_
    show _ ≤ lyN (mcE S df A W (i + m + 1)).2.1
    rcases hz : mcE S df A W (i + m) with ⟨r, t', W'⟩
    cases r with
    | some r => rw [mcE_k hz 1]; exact Nat.le_refl _
    | none =>
      rw [mcE_s hz]
      exact mcL_mono (l := 0) (m := 6)
/-! capacities -/
def cpG : Nat → Nat → Nat → Nat
  | 0, c, _ => c
  | f + 1, c, n => if n ≤ c then c else cpG f (2 * c) n
theorem cp_le : ∀ {f c n : Nat}, n ≤ c → cpG f c n = c
  | 0, _, _, _ => rfl
  | f + 1, c, n, h => if_pos h
theorem cp_gt {f c n : Nat} (h : c < n) : cpG (f + 1) c n = cpG f (2 * c) n := if_neg (by omega)
theorem cp_self : ∀ {f c n : Nat}, c ≤ cpG f c n
  | 0, c, n => Nat.le_refl _
  | f + 1, c, n => by
    by_cases h : n ≤ c
    · rw [cp_le h]; exact Nat.le_refl _
    · rw [cp_gt (by omega)]
      exact Nat.le_trans (by omega) (cp_self (f := f) (c := 2 * c) (n := n))
theorem cp_ge : ∀ {f c n : Nat}, n ≤ c * 2 ^ f → n ≤ cpG f c n
  | 0, c, n, h => by rw [Nat.pow_zero, Nat.mul_one] at h; exact h
  | f + 1, c, n, h => by
    by_cases h2 : n ≤ c
    · rw [cp_le h2]; exact h2
    · rw [cp_gt (by omega)]
      refine cp_ge (f := f) ?_
      rw [Nat.pow_succ] at h
      rw [Nat.mul_comm 2 c, Nat.mul_assoc, Nat.mul_comm 2]
      exact h
theorem cp_mono : ∀ {f c n n' : Nat}, n ≤ n' → cpG f c n ≤ cpG f c n'
  | 0, _, _, _, _ => Nat.le_refl _
  | f + 1, c, n, n', h => by
    by_cases h2 : n ≤ c
    · rw [cp_le h2]; exact cp_self
    · rw [cp_gt (by omega), cp_gt (by omega)]
      exact cp_mono h
theorem cp_full : ∀ {f c n : Nat}, 1 ≤ c → n + 1 ≤ c * 2 ^ f → c ≤ n → cpG f c n = n → cpG f c (n + 1) = 2 * n
  | 0, c, n, hc, h, h1, h2 => by
    have h2 : c = n := h2
    rw [Nat.pow_zero] at h
    omega
  | f + 1, c, n, hc, h, h1, h2 => by
    rw [cp_gt (by omega)]
    by_cases h3 : n ≤ c
    · have : n = c := by omega
      subst this
      exact cp_le (by omega)
    · rw [cp_gt (by omega)] at h2
      refine cp_full (f := f) (by omega) ?_ ?_ h2
      · rw [Nat.pow_succ] at h
        rw [Nat.mul_comm 2 c, Nat.mul_assoc, Nat.mul_comm 2]
        exact h
      · rw [← h2]
        exact cp_self
theorem cp_room : ∀ {f c n : Nat}, n < cpG f c n → cpG f c (n + 1) = cpG f c n
  | 0, _, _, _ => rfl
  | f + 1, c, n, h => by
    by_cases h2 : n ≤ c
    · rw [cp_le h2] at h ⊢
      exact cp_le h
    · rw [cp_gt (by omega)] at h ⊢
      rw [cp_gt (by omega)]
      exact cp_room h
def capB (c : Nat) : Prop := ∃ j, j ≤ 10 ∧ c = 32 * 2 ^ j
theorem capB.rng {c : Nat} (h : capB c) : 32 ≤ c ∧ c ≤ 32768 := by
  obtain ⟨j, h1, rfl⟩ := h
  have h2 := Nat.two_pow_pos j
  have h3 : 2 ^ j ≤ 2 ^ 10 := Nat.pow_le_pow_right (by decide) h1
  omega
theorem cp_capB : ∀ {f c n : Nat}, capB c → n ≤ 32768 → capB (cpG f c n)
  | 0, _, _, h, _ => h
  | f + 1, c, n, h, hn => by
    by_cases h2 : n ≤ c
    · rw [cp_le h2]; exact h
    · rw [cp_gt (by omega)]
      refine cp_capB ?_ hn
      obtain ⟨j, h1, rfl⟩ := h
      refine ⟨j + 1, ?_, ?_⟩
      · rcases Nat.lt_or_ge j 10 with q | q
        · omega
        · have : j = 10 := by omega
          subst this
          omega
      · rw [Nat.pow_succ]; omega
theorem cp_fuel {c n : Nat} (h : capB c) (hn : n ≤ 32768) : n ≤ c * 2 ^ 10 := by
  have := h.rng
  omega
