/-! TOOLS: constants, loops, contracts -/
theorem oI_0 : Int32.ofInt 0 = nI 0 := rfl
theorem oI_1 : Int32.ofInt 1 = nI 1 := rfl
theorem oI_2 : Int32.ofInt 2 = nI 2 := rfl
theorem oI_3 : Int32.ofInt 3 = nI 3 := rfl
theorem oI_4 : Int32.ofInt 4 = nI 4 := rfl
theorem oI_5 : Int32.ofInt 5 = nI 5 := rfl
theorem oI_6 : Int32.ofInt 6 = nI 6 := rfl
theorem oI_8 : Int32.ofInt 8 = nI 8 := rfl
theorem oI_9 : Int32.ofInt 9 = nI 9 := rfl
theorem oI_12 : Int32.ofInt 12 = nI 12 := rfl
theorem oI_16 : Int32.ofInt 16 = nI 16 := rfl
theorem oI_18 : Int32.ofInt 18 = nI 18 := rfl
theorem oI_32 : Int32.ofInt 32 = nI 32 := rfl
theorem oI_40 : Int32.ofInt 40 = nI 40 := rfl
theorem oI_41 : Int32.ofInt 41 = nI 41 := rfl
theorem oI_43 : Int32.ofInt 43 = nI 43 := rfl
theorem oI_48 : Int32.ofInt 48 = nI 48 := rfl
theorem oI_54 : Int32.ofInt 54 = nI 54 := rfl
theorem oI_55 : Int32.ofInt 55 = nI 55 := rfl
theorem oI_59 : Int32.ofInt 59 = nI 59 := rfl
theorem oI_63 : Int32.ofInt 63 = nI 63 := rfl
theorem oI_64 : Int32.ofInt 64 = nI 64 := rfl
theorem oI_70 : Int32.ofInt 70 = nI 70 := rfl
theorem oI_72 : Int32.ofInt 72 = nI 72 := rfl
theorem oI_97 : Int32.ofInt 97 = nI 97 := rfl
theorem oI_102 : Int32.ofInt 102 = nI 102 := rfl
theorem oI_103 : Int32.ofInt 103 = nI 103 := rfl
theorem oI_124 : Int32.ofInt 124 = nI 124 := rfl
theorem oI_126 : Int32.ofInt 126 = nI 126 := rfl
theorem oI_256 : Int32.ofInt 256 = nI 256 := rfl
theorem oI_512 : Int32.ofInt 512 = nI 512 := rfl
theorem oI_513 : Int32.ofInt 513 = nI 513 := rfl
theorem oI_4096 : Int32.ofInt 4096 = nI 4096 := rfl
theorem oI_13122 : Int32.ofInt 13122 = nI 13122 := rfl
theorem oI_1000000000 : Int32.ofInt 1000000000 = nI 1000000000 := rfl
theorem oI_1431655765 : Int32.ofInt 1431655765 = nI 1431655765 := rfl
theorem oI_252645135 : Int32.ofInt 252645135 = nI 252645135 := rfl
theorem oI_858993459 : Int32.ofInt 858993459 = nI 858993459 := rfl
theorem cn_b {p : Bool} {P : Int32 → Prop} : cnd p (P (nI 1)) (P (nI 0)) = P (b2i p) := by
  cases p
  · exact propext ⟨fun q => q.2 rfl, fun q => ⟨(fun e => by cases e), fun _ => q⟩⟩
  · exact propext ⟨fun q => q.1 rfl, fun q => ⟨fun _ => q, fun e => by cases e⟩⟩
theorem cn_t {A B : Prop} : cnd true A B = A := propext ⟨fun q => q.1 rfl, fun q => ⟨fun _ => q, fun e => by cases e⟩⟩
theorem cn_f {A B : Prop} : cnd false A B = B := propext ⟨fun q => q.2 rfl, fun q => ⟨(fun e => by cases e), fun _ => q⟩⟩
theorem cn_n {p : Bool} {A B : Prop} : cnd (!p) A B = cnd p B A := by cases p <;> simp only [Bool.not_true, Bool.not_false, cn_t, cn_f]
theorem cn_d {p : Prop} [Decidable p] {A B : Prop} : cnd (decide p) A B = ((p → A) ∧ (¬ p → B)) := by
  unfold cnd
  rw [decide_eq_true_eq, decide_eq_false_iff_not]
theorem cn_i {p : Prop} [Decidable p] {A B : Prop} (h1 : p → A) (h2 : ¬ p → B) : cnd (decide p) A B := by
  rw [cn_d]
  exact ⟨h1, h2⟩
theorem cn_y {p : Prop} [Decidable p] {A B : Prop} (h : p) (h1 : A) : cnd (decide p) A B := cn_i (fun _ => h1) (fun q => absurd h q)
theorem cn_o {p : Prop} [Decidable p] {A B : Prop} (h : ¬ p) (h1 : B) : cnd (decide p) A B := cn_i (fun q => absurd q h) (fun _ => h1)
/-- a loop with an invariant on a number that goes up to N at most -/
theorem whl_i {c : XC} {a : ST} {g : GE} {Q : LE → FH → Bd → Prop} {R : Option Value → FH → Prop} {env : LE} {h : FH} {b : Bd} (N : Nat) (I : Nat → LE → FH → Bd → Prop) (h0 : I 0 env h b)
    (step : ∀ (i : Nat) (e : LE) (h : FH) (b : Bd), I i e h b → ∀ J : LE → FH → Bd → Prop, (i < N → ∀ (e : LE) (h : FH) (b : Bd), I (i + 1) e h b → J e h b) → c.2 g (fun v h' b' => cnd v (a.2 g J R e h' b') (Q e h' b')) e h b) : (s_whl c a).2 g Q R env h b := by
  refine ⟨fun n e h b => ∃ i, n = N - i ∧ I i e h b, ⟨N - 0, 0, rfl, h0⟩, fun n e h b hi => ?_⟩
  obtain ⟨i, rfl, hI⟩ := hi
  exact step i e h b hI _ (fun hN e h b hI => ⟨N - (i + 1), by omega, i + 1, rfl, hI⟩)
/-- a loop whose state is known at every turn -/
theorem whl_d {c : XC} {a : ST} {g : GE} {Q : LE → FH → Bd → Prop} {R : Option Value → FH → Prop} {env : LE} {h : FH} {b : Bd} (N : Nat) (S : Nat → LE × FH × Bd) (h0 : (env, h, b) = S 0)
    (step : ∀ i : Nat, i ≤ N → ∀ J : LE → FH → Bd → Prop, (i < N → J (S (i + 1)).1 (S (i + 1)).2.1 (S (i + 1)).2.2) → c.2 g (fun v h' b' => cnd v (a.2 g J R (S i).1 h' b') (Q (S i).1 h' b')) (S i).1 (S i).2.1 (S i).2.2) : (s_whl c a).2 g Q R env h b := by
  refine whl_i N (fun i e h b => i ≤ N ∧ (e, h, b) = S i) ⟨Nat.zero_le _, h0⟩ (fun i e h b hI J hJ => ?_)
  obtain ⟨hi, hS⟩ := hI
  have := step i hi J (fun hN => hJ hN _ _ _ ⟨hN, rfl⟩)
  rw [← hS] at this
  exact this
/-- a loop that leaves the heap as it is -/
theorem whl_p {c : XC} {a : ST} {g : GE} {Q : LE → FH → Bd → Prop} {R : Option Value → FH → Prop} {env : LE} {h : FH} {b : Bd} (N : Nat) (E : Nat → LE) (h0 : env = E 0)
    (step : ∀ i : Nat, i ≤ N → ∀ J : LE → FH → Bd → Prop, (i < N → J (E (i + 1)) h b) → c.2 g (fun v h' b' => cnd v (a.2 g J R (E i) h' b') (Q (E i) h' b')) (E i) h b) : (s_whl c a).2 g Q R env h b :=
  whl_d N (fun i => (E i, h, b)) (by rw [h0]) step
/-- contracts -/
theorem CQ_p {k d : Nat} {g : GE} {av : List Value} {Q : Option Value → FH → Bd → Prop} {h : FH} {b : Bd} {B : (Option Value → FH → Prop) → Prop} (w : Option Value) (C : ∀ Rr : Option Value → FH → Prop, B Rr → Call k d av h 0 0 Rr) (hd : d < g.1) (body : ∀ Rr : Option Value → FH → Prop, Rr w h → B Rr) (hq : Q w h b) : CallQ k g av Q h b :=
  ⟨d, 0, 0, fun v h' => v = w ∧ h' = h, hd, Nat.zero_le _, Nat.zero_le _, C _ (body _ ⟨rfl, rfl⟩), fun v h' e => by
    obtain ⟨rfl, rfl⟩ := e
    exact hq⟩
theorem CQ_g {k d : Nat} {g : GE} {av : List Value} {Q : Option Value → FH → Bd → Prop} {h : FH} {b : Bd} {B : (Option Value → FH → Prop) → Prop} (mc ms : Nat) (Rr : Option Value → FH → Prop) (C : ∀ Rr : Option Value → FH → Prop, B Rr → Call k d av h mc ms Rr) (hd : d < g.1) (h1 : mc ≤ b.1) (h2 : ms ≤ b.2) (body : B Rr) (hq : ∀ v h', Rr v h' → Q v h' (b.1 - mc, b.2 - ms)) : CallQ k g av Q h b :=
  ⟨d, mc, ms, Rr, hd, h1, h2, C _ body, hq⟩
theorem CQ_h {k d : Nat} {g : GE} {av : List Value} {Q : Option Value → FH → Bd → Prop} {h : FH} {b : Bd} {B : (Option Value → FH → Prop) → Prop} (w : Option Value) (P : FH → Prop) (C : ∀ Rr : Option Value → FH → Prop, B Rr → Call k d av h 0 0 Rr) (hd : d < g.1) (body : ∀ Rr : Option Value → FH → Prop, (∀ h', P h' → Rr w h') → B Rr) (hq : ∀ h', P h' → Q w h' b) : CallQ k g av Q h b :=
  ⟨d, 0, 0, fun v h' => v = w ∧ P h', hd, Nat.zero_le _, Nat.zero_le _, C _ (body _ fun h' q => ⟨rfl, q⟩), fun v h' e => by
    obtain ⟨rfl, e⟩ := e
    exact hq _ e⟩
def FrO (lo n : Nat) (h h' : FH) : Prop := h'.1 = h.1 ∧ ∀ x, (x < lo ∨ lo + n ≤ x) → h'.2 x = h.2 x
theorem FrO.refl {lo n : Nat} {h : FH} : FrO lo n h h := ⟨rfl, fun _ _ => rfl⟩
theorem FrO.trans {lo n : Nat} {h h' h'' : FH} (a : FrO lo n h h') (b : FrO lo n h' h'') : FrO lo n h h'' := ⟨b.1.trans a.1, fun x hx => (b.2 x hx).trans (a.2 x hx)⟩
theorem FrO.set {lo n a : Nat} {h : FH} {c : FC} (h1 : lo ≤ a) (h2 : a < lo + n) : FrO lo n h (hset h a c) := ⟨rfl, fun x hx => hs_ne (by omega)⟩
theorem FrO.mono {lo n lo' n' : Nat} {h h' : FH} (a : FrO lo n h h') (h1 : lo' ≤ lo) (h2 : lo + n ≤ lo' + n') : FrO lo' n' h h' := ⟨a.1, fun x hx => a.2 x (by omega)⟩
