/-! PARSE of the reference, pure: conflicts of a block -/
def cdT (o : Nat) (p q : Str) (B x y : Nat) : Prop := (B ≤ y ∧ (sK q (x - B)).testBit (y - B) = true) ∨ (o = 43 ∧ y < p.1)
def prT (o : Nat) (p q : Str) (B X F x y : Nat) : Prop := B ≤ x ∧ x < B + q.1 ∧ y < B + q.1 ∧ (x < B + X ∨ (x = B + X ∧ y < F)) ∧ cdT o p q B x y
def KbT (o : Nat) (p q : Str) (pr : Nat → Nat) (B X F e f : Nat) : Prop := (e < B ∧ (pr e).testBit f = true) ∨ prT o p q B X F e f ∨ prT o p q B X F f e
def KgT (o : Nat) (p q : Str) (pr : Nat → Nat) (B X F n : Nat) (K : Nat → Int32) : Prop := ∀ e, e < n → ∃ k, k < 256 ∧ K e = nI k ∧ ∀ f, f < 8 → (k.testBit f = true ↔ KbT o p q pr B X F e f)
theorem prT_z {o : Nat} {p q : Str} {B x y : Nat} : ¬ prT o p q B 0 0 x y := fun ⟨a, _, _, b, _⟩ => by omega
theorem KT_init {o : Nat} {p q : Str} {pr : Nat → Nat} {B : Nat} {K : Nat → Int32} (h : ∀ e, e < B → K e = nI (pr e) ∧ pr e < 256) : KgT o p q pr B 0 0 B K := fun e he => ⟨pr e, (h e he).2, (h e he).1, fun f _ => ⟨fun a => Or.inl ⟨he, a⟩, fun a => by
  rcases a with a | a | a
  · exact a.2
  · exact absurd a prT_z
  · exact absurd a prT_z⟩⟩
theorem KT_add {o : Nat} {p q : Str} {pr : Nat → Nat} {B i : Nat} {K : Nat → Int32} (h : KgT o p q pr B 0 0 (B + i) K) : KgT o p q pr B 0 0 (B + i + 1) (upd K (B + i) (nI 0)) := fun e he => by
  by_cases g : e = B + i
  · subst g
    refine ⟨0, by omega, upd_1, fun f _ => ⟨fun a => by simp at a, fun a => ?_⟩⟩
    rcases a with a | a | a
    · omega
    · exact absurd a prT_z
    · exact absurd a prT_z
  · obtain ⟨k, h1, h2, h3⟩ := h e (by omega)
    exact ⟨k, h1, (upd_2 g).trans h2, h3⟩
theorem prT_s {o : Nat} {p q : Str} {B X F x y : Nat} (hX : X < q.1) (hF : F < B + q.1) : prT o p q B X (F + 1) x y ↔ prT o p q B X F x y ∨ (x = B + X ∧ y = F ∧ cdT o p q B x y) := by
  unfold prT
  constructor
  · rintro ⟨a, b, c, d, e⟩
    by_cases g : x = B + X ∧ y = F
    · exact Or.inr ⟨g.1, g.2, e⟩
    · exact Or.inl ⟨a, b, c, by omega, e⟩
  · rintro (⟨a, b, c, d, e⟩ | ⟨a, b, c⟩)
    · exact ⟨a, b, c, by omega, e⟩
    · exact ⟨by omega, by omega, by omega, by omega, c⟩
theorem KT_skip {o : Nat} {p q : Str} {pr : Nat → Nat} {B X F n : Nat} {K : Nat → Int32} (hX : X < q.1) (hF : F < B + q.1) (hc : ¬ cdT o p q B (B + X) F) (h : KgT o p q pr B X F n K) : KgT o p q pr B X (F + 1) n K := fun e he => by
  obtain ⟨k, h1, h2, h3⟩ := h e he
  refine ⟨k, h1, h2, fun f hf => (h3 f hf).trans ?_⟩
  unfold KbT
  rw [prT_s hX hF, prT_s hX hF]
  have n1 : ¬ (e = B + X ∧ f = F ∧ cdT o p q B e f) := fun ⟨x1, x2, x3⟩ => by subst x1; subst x2; exact hc x3
  have n2 : ¬ (f = B + X ∧ e = F ∧ cdT o p q B f e) := fun ⟨x1, x2, x3⟩ => by subst x1; subst x2; exact hc x3
  simp only [n1, n2, or_false]
theorem tb_or2 {k g f : Nat} : (k ||| 2 ^ g).testBit f = true ↔ k.testBit f = true ∨ f = g := by
  rw [Nat.testBit_or, Nat.testBit_two_pow, Bool.or_eq_true, decide_eq_true_eq]
  exact ⟨fun a => a.imp id Eq.symm, fun a => a.imp id Eq.symm⟩
theorem KT_conf {o : Nat} {p q : Str} {pr : Nat → Nat} {B X F n : Nat} {K : Nat → Int32} (hX : X < q.1) (hF : F < B + q.1) (hn : n = B + q.1) (h8 : n ≤ 8) (hne : F ≠ B + X) (hc : cdT o p q B (B + X) F) (h : KgT o p q pr B X F n K) : KgT o p q pr B X (F + 1) n (upd (upd K (B + X) (K (B + X) ||| nI (2 ^ F))) F (upd K (B + X) (K (B + X) ||| nI (2 ^ F)) F ||| nI (2 ^ (B + X)))) := fun e he => by
  have hp1 : 2 ^ F < 256 := Nat.lt_of_lt_of_le (Nat.pow_lt_pow_right (by omega) (show F < 8 by omega)) (by omega)
  have hp2 : 2 ^ (B + X) < 256 := Nat.lt_of_lt_of_le (Nat.pow_lt_pow_right (by omega) (show B + X < 8 by omega)) (by omega)
  obtain ⟨k, h1, h2, h3⟩ := h e he
  have key : ∀ f, KbT o p q pr B X (F + 1) e f ↔ KbT o p q pr B X F e f ∨ (e = B + X ∧ f = F) ∨ (e = F ∧ f = B + X) := fun f => by
    unfold KbT
    rw [prT_s hX hF, prT_s hX hF]
    constructor
    · rintro (a | (a | a) | (a | a))
      · exact Or.inl (Or.inl a)
      · exact Or.inl (Or.inr (Or.inl a))
      · exact Or.inr (Or.inl ⟨a.1, a.2.1⟩)
      · exact Or.inl (Or.inr (Or.inr a))
      · exact Or.inr (Or.inr ⟨a.2.1, a.1⟩)
    · rintro ((a | a | a) | ⟨a, b⟩ | ⟨a, b⟩)
      · exact Or.inl a
      · exact Or.inr (Or.inl (Or.inl a))
      · exact Or.inr (Or.inr (Or.inl a))
      · subst a; subst b; exact Or.inr (Or.inl (Or.inr ⟨rfl, rfl, hc⟩))
      · subst a; subst b; exact Or.inr (Or.inr (Or.inr ⟨rfl, rfl, hc⟩))
  by_cases g1 : e = F
  · subst g1
    refine ⟨k ||| 2 ^ (B + X), Nat.or_lt_two_pow (n := 8) h1 hp2, ?_, fun f hf => ?_⟩
    · rw [upd_1, upd_2 hne, h2, fa_or]
    · rw [tb_or2, h3 f hf, key]
      constructor
      · rintro (a | a)
        · exact Or.inl a
        · exact Or.inr (Or.inr ⟨rfl, a⟩)
      · rintro (a | a | a)
        · exact Or.inl a
        · exact absurd a.1 hne
        · exact Or.inr a.2
  · by_cases g2 : e = B + X
    · subst g2
      refine ⟨k ||| 2 ^ F, Nat.or_lt_two_pow (n := 8) h1 hp1, ?_, fun f hf => ?_⟩
      · rw [upd_2 g1, upd_1, h2, fa_or]
      · rw [tb_or2, h3 f hf, key]
        constructor
        · rintro (a | a)
          · exact Or.inl a
          · exact Or.inr (Or.inl ⟨rfl, a⟩)
        · rintro (a | a | a)
          · exact Or.inl a
          · exact Or.inr a.2
          · exact absurd a.1 g1
    · refine ⟨k, h1, by rw [upd_2 g1, upd_2 g2, h2], fun f hf => ?_⟩
      rw [h3 f hf, key]
      constructor
      · exact fun a => Or.inl a
      · rintro (a | a | a)
        · exact a
        · exact absurd a.1 g2
        · exact absurd a.1 g1
theorem KT_row {o : Nat} {p q : Str} {pr : Nat → Nat} {B X n : Nat} {K : Nat → Int32} (h : KgT o p q pr B X (B + q.1) n K) : KgT o p q pr B (X + 1) 0 n K := fun e he => by
  obtain ⟨k, h1, h2, h3⟩ := h e he
  have key : ∀ x y, prT o p q B X (B + q.1) x y ↔ prT o p q B (X + 1) 0 x y := fun x y => by
    unfold prT
    constructor
    · rintro ⟨a, b, c, d, e⟩
      exact ⟨a, b, c, by omega, e⟩
    · rintro ⟨a, b, c, d, e⟩
      exact ⟨a, b, c, by omega, e⟩
  refine ⟨k, h1, h2, fun f hf => (h3 f hf).trans ?_⟩
  unfold KbT
  rw [key, key]
def priT (o : Nat) (p q : Str) (j : Nat) : Nat → Nat := if j = 0 then sK p else sK (tgS o p q)
/-- the block ready -/
theorem KT_fin {o : Nat} {p q : Str} {j n : Nat} {K : Nat → Int32} (hp : WfS p) (hq : WfS q) (hT : WfS (tgS o p q)) (h43 : o = 43 → j = 0) (hn : n = p.1 + j * q.1 + q.1) (h8 : n ≤ (tgS o p q).1) (h : KgT o p q (priT o p q j) (p.1 + j * q.1) q.1 0 n K) : ∀ e, e < n → K e = nI (sK (tgS o p q) e) := fun e he => by
  obtain ⟨k, h1, h2, h3⟩ := h e he
  have hT8 := hT.1
  have hb : sK (tgS o p q) e < 256 := Nat.lt_of_lt_of_le (hT.2.1 e (by omega)).2.2.2.1 (p8 hT.1)
  rw [h2]
  refine congrArg nI (Nat.eq_of_testBit_eq fun f => ?_)
  rcases Nat.lt_or_ge f 8 with hf | hf
  · rw [Bool.eq_iff_iff, h3 f hf]
    have hdef : sK (tgS o p q) e = if e < p.1 then sK p e ||| (if o = 43 then (2 ^ q.1 - 1) * 2 ^ p.1 else 0) else sK q ((e - p.1) % q.1) * 2 ^ (p.1 + (e - p.1) / q.1 * q.1) ||| (if o = 43 then 2 ^ p.1 - 1 else 0) := rfl
    by_cases c1 : e < p.1 + j * q.1
    · -- an earlier event
      have hpr : ∀ x, (priT o p q j e).testBit f = x → (j = 0 → (sK p e).testBit f = x) := fun x hx hj => by
        unfold priT at hx; rw [if_pos hj] at hx; exact hx
      by_cases ho : o = 43
      · have hj := h43 ho
        subst hj
        have ce : e < p.1 := by omega
        rw [hdef, if_pos ce, if_pos ho, Nat.testBit_or, Nat.testBit_mul_two_pow, Nat.testBit_two_pow_sub_one]
        unfold KbT prT cdT priT
        rw [if_pos rfl]
        simp only [Bool.or_eq_true, Bool.and_eq_true, decide_eq_true_eq]
        constructor
        · rintro (a | a | a)
          · exact Or.inl a.2
          · omega
          · exact Or.inr ⟨by omega, by omega⟩
        · rintro (a | ⟨a, b⟩)
          · exact Or.inl ⟨c1, a⟩
          · exact Or.inr (Or.inr ⟨by omega, by omega, by omega, by omega, Or.inr ⟨ho, ce⟩⟩)
      · have hv : (priT o p q j e).testBit f = (sK (tgS o p q) e).testBit f := by
          unfold priT
          split
          · rename_i hj
            subst hj
            rw [hdef, if_pos (by omega), if_neg ho, Nat.or_zero]
          · rfl
        unfold KbT prT cdT
        rw [hv]
        constructor
        · rintro (a | a | ⟨a1, a2, a3, a4, a5⟩)
          · exact a.2
          · omega
          · rcases a5 with a5 | a5
            · omega
            · exact absurd a5.1 ho
        · exact fun a => Or.inl ⟨c1, a⟩
    · have hq0 : 0 < q.1 := by
        rcases Nat.eq_zero_or_pos q.1 with z | z
        · rw [z] at hn; omega
        · exact z
      obtain ⟨i, hi⟩ : ∃ i, e = p.1 + j * q.1 + i := ⟨e - (p.1 + j * q.1), by omega⟩
      have hi2 : i < q.1 := by omega
      obtain ⟨d1, d2⟩ := div_ix (n := p.1) (j := j) hi2
      rw [hdef, if_neg (by omega), hi, d1, d2, Nat.testBit_or, Nat.testBit_mul_two_pow]
      have hbi : (if o = 43 then 2 ^ p.1 - 1 else 0).testBit f = (decide (o = 43) && decide (f < p.1)) := by
        by_cases ho : o = 43
        · rw [if_pos ho, Nat.testBit_two_pow_sub_one, decide_eq_true ho, Bool.true_and]
        · rw [if_neg ho, Nat.zero_testBit, decide_eq_false ho, Bool.false_and]
      rw [hbi]
      have hbnd := (hq.2.1 i hi2).2.2.2.1
      have hsym : ∀ y, y < q.1 → (sK q y).testBit i = (sK q i).testBit y := fun y hy => by
        have := (hq.2.1 y hy).2.2.2.2.2 i hi2
        exact this
      unfold KbT prT cdT
      simp only [Bool.or_eq_true, Bool.and_eq_true, decide_eq_true_eq]
      have ei : p.1 + j * q.1 + i - (p.1 + j * q.1) = i := by omega
      rw [ei]
      constructor
      · rintro (a | ⟨-, -, -, -, a⟩ | ⟨a1, a2, -, -, a5⟩)
        · omega
        · exact a
        · rcases a5 with a5 | a5
          · have := hsym (f - (p.1 + j * q.1)) (by omega)
            rw [this] at a5
            exact Or.inl ⟨a1, a5.2⟩
          · omega
      · rintro (a | a)
        · refine Or.inr (Or.inl ⟨by omega, by omega, ?_, by omega, Or.inl a⟩)
          rcases Nat.lt_or_ge f (p.1 + j * q.1 + q.1) with z | z
          · exact z
          · rw [tb_false_of_lt hbnd (by omega)] at a
            exact absurd a.2 (by decide)
        · exact Or.inr (Or.inl ⟨by omega, by omega, by omega, by omega, Or.inr a⟩)
  · rw [tb_false_of_lt (n := 8) h1 hf, tb_false_of_lt (n := 8) hb hf]
