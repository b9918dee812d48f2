/-! division and remainder: the divisor isn't 0 -/
def e_binP (ins : Instr) (f : Int32 → Int32 → Int32) (a b : XI) : XI := (fun S sd pc => match a.1 S sd pc with
    | some p1 => match b.1 S (sd + 1) p1 with
      | some p2 => if isI S p2 ins 1 then some (p2 + 1) else none
      | none => none
    | none => none, fun g Q env h bd => a.2 g (fun x h' b' => b.2 g (fun y h b => ¬ y = 0 ∧ Q (f x y) h b) env h' b') env h bd)
theorem OK_binP {ins : Instr} {f : Int32 → Int32 → Int32} {a b : XI} (hg : ∀ off, ins ≠ .goto off) (row : ∀ (K : KT) (pc : Nat) (env : LE) (st : List Value) (h : FH) (bd : Bd) (x y : Int32), ¬ y = 0 → JOK K → decode (cby K.2.2.1) pc = .ok (ins, 1) → J K (pc + 1) env (.int (f x y) :: st) h bd → J K pc env (.int y :: .int x :: st) h bd) (ha : OKI a) (hb : OKI b) : OKI (e_binP ins f a b) := by
  refine ⟨fun S sd pc pc' h => ?_, fun g Q Q' env h bd hm hq => ha.2.1 g _ _ env h bd (fun v h' b' hv => hb.2.1 g _ _ env h' b' (fun v h' b' hx => ⟨hx.1, hm _ _ _ hx.2⟩) hv) hq, fun K X sd pc pc' hc Q env st h bd hs hq k => ?_⟩
  · unfold e_binP at h
    dsimp only at h
    split at h
    · rename_i p1 h1; exact ha.1 S sd pc p1 h1
    · cases h
  · unfold e_binP at hc hq
    dsimp only at hc hq
    split at hc
    · rename_i p1 h1
      split at hc
      · rename_i p2 h2
        split at hc
        · rename_i hi
          cases hc
          refine ha.2.2 K X sd pc p1 h1 _ env st h bd hs hq (fun x h' b' hx => Jf.of (hb.1 _ _ _ _ h2) ?_)
          refine hb.2.2 K X (sd + 1) p1 p2 h2 _ env (.int x :: st) h' b' ?_ hx (fun y h'' b'' hy => Jf.of (fl1_of (isI_d hi) hg) (row K p2 env st h'' b'' x y hy.1 X (isI_d hi) ((k _ h'' b'' hy.2).j X)))
          rw [sw_cons]
          show 1 + _ ≤ _
          omega
        · cases hc
      · cases hc
    · cases hc
def i_div (a b : XI) : XI := e_binP .idiv (fun x y => x / y) a b
def i_rem (a b : XI) : XI := e_binP .irem (fun x y => x - x / y * y) a b
theorem OK_idiv {a b : XI} (ha : OKI a) (hb : OKI b) : OKI (i_div a b) := OK_binP (by simp) (fun K pc env st h bd x y hz X hd k => J_idiv hz X hd k) ha hb
theorem OK_irem {a b : XI} (ha : OKI a) (hb : OKI b) : OKI (i_rem a b) := OK_binP (by simp) (fun K pc env st h bd x y hz X hd k => J_irem hz X hd k) ha hb
