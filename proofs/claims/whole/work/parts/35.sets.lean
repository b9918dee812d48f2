/-! sets of events as numbers; what follows from a structure -/
def orf (f : Nat → Nat) : Nat → Nat
  | 0 => 0
  | n + 1 => orf f n ||| f n
theorem orf_bit {f : Nat → Nat} {i : Nat} : ∀ {n : Nat}, (orf f n).testBit i = true ↔ ∃ e, e < n ∧ (f e).testBit i = true
  | 0 => ⟨fun h => by simp [orf] at h, fun ⟨e, h, _⟩ => absurd h (by omega)⟩
  | n + 1 => by
    show (orf f n ||| f n).testBit i = true ↔ _
    rw [Nat.testBit_or, Bool.or_eq_true, orf_bit (n := n)]
    constructor
    · rintro (⟨e, h1, h2⟩ | h)
      · exact ⟨e, by omega, h2⟩
      · exact ⟨n, by omega, h⟩
    · rintro ⟨e, h1, h2⟩
      by_cases hen : e = n
      · subst hen; exact Or.inr h2
      · exact Or.inl ⟨e, by omega, h2⟩
theorem orf_lt {f : Nat → Nat} {k : Nat} : ∀ {n : Nat}, (∀ e, e < n → f e < 2 ^ k) → orf f n < 2 ^ k
  | 0, _ => Nat.two_pow_pos k
  | n + 1, h => Nat.or_lt_two_pow (orf_lt (n := n) fun e he => h e (by omega)) (h n (by omega))
def bset (p : Nat → Bool) (n : Nat) : Nat := orf (fun e => if p e then 2 ^ e else 0) n
theorem bset_s {p : Nat → Bool} {n : Nat} : bset p (n + 1) = bset p n ||| (if p n then 2 ^ n else 0) := rfl
theorem bset_bit {p : Nat → Bool} {n i : Nat} : (bset p n).testBit i = (decide (i < n) && p i) := by
  rw [Bool.eq_iff_iff, bset, orf_bit, Bool.and_eq_true, decide_eq_true_eq]
  constructor
  · rintro ⟨e, h1, h2⟩
    cases hp : p e
    · rw [hp] at h2; simp at h2
    · rw [hp, if_pos rfl, Nat.testBit_two_pow] at h2
      have := of_decide_eq_true h2
      subst this
      exact ⟨h1, hp⟩
  · rintro ⟨h1, h2⟩
    exact ⟨i, h1, by rw [h2, if_pos rfl, Nat.testBit_two_pow_self]⟩
theorem bset_lt {p : Nat → Bool} {n : Nat} : bset p n < 2 ^ n := orf_lt fun e he => by
  show (if p e then 2 ^ e else 0) < 2 ^ n
  split
  · exact pow_lt he
  · exact Nat.two_pow_pos n
theorem bset_cong {p q : Nat → Bool} {n : Nat} (h : ∀ e, e < n → p e = q e) : bset p n = bset q n := Nat.eq_of_testBit_eq fun i => by
  rw [bset_bit, bset_bit]
  by_cases hi : i < n
  · rw [h i hi]
  · simp [hi]
def hst (s : Str) (e : Nat) : Nat := pastN s e s.1
def enm (s : Str) (m : Nat) : Nat := orf (fun a => if m.testBit a then sK s a else 0) s.1
def clsM (s : Str) (m : Nat) : Nat := bset (fun f => !decide (hst s f &&& enm s m = 0)) s.1
def opn (s : Str) (m : Nat) : Nat := bset (fun e => !m.testBit e && cfgB s (m ||| 2 ^ e)) s.1
theorem hst_lt {s : Str} (hw : WfS s) {e : Nat} (he : e < s.1) : hst s e < 2 ^ s.1 := pastN_lt hw he _
theorem enm_lt {s : Str} (hw : WfS s) {m : Nat} : enm s m < 2 ^ s.1 := orf_lt fun e he => by
  show (if m.testBit e then sK s e else 0) < 2 ^ s.1
  split
  · exact (hw.2.1 e he).2.2.2.1
  · exact Nat.two_pow_pos _
theorem tb_false_of_lt {m n i : Nat} (h : m < 2 ^ n) (hi : n ≤ i) : m.testBit i = false := lt_pow_bit.mp h i hi
theorem bit_lt_of {m n i : Nat} (h : m < 2 ^ n) (hi : m.testBit i = true) : i < n := by
  rcases Nat.lt_or_ge i n with q | q
  · exact q
  · rw [tb_false_of_lt h q] at hi; cases hi
theorem or_pow_bit {m e i : Nat} : (m ||| 2 ^ e).testBit i = (m.testBit i || decide (e = i)) := by
  rw [Nat.testBit_or, Nat.testBit_two_pow]
