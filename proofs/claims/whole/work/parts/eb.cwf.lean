/-! MATHEMATICS: structures stay well formed -/
theorem add_wf {s : Str} {l d : Nat} (hw : WfS s) (h8 : s.1 < 8) (hl : l < 6) (hd : d ≤ 1000000000) : WfS (addS s l d) := by
  obtain ⟨w1, w2, r, w3⟩ := id hw
  have p1 : 2 ^ s.1 < 2 ^ (s.1 + 1) := pow_lt (by omega)
  refine ⟨by show s.1 + 1 ≤ 8; omega, fun e he => ?_, r, fun e f he hf h => ?_⟩
  · have he : e < s.1 + 1 := he
    show updN (sL s) s.1 l e < 6 ∧ updN (sD s) s.1 d e ≤ 1000000000 ∧ updN (sC s) s.1 0 e < 2 ^ (s.1 + 1) ∧ updN (sK s) s.1 0 e < 2 ^ (s.1 + 1) ∧ (updN (sK s) s.1 0 e).testBit e = false ∧ ∀ f, f < s.1 + 1 → (updN (sK s) s.1 0 e).testBit f = (updN (sK s) s.1 0 f).testBit e
    by_cases q : e = s.1
    · have u : ∀ (f : Nat → Nat) x, updN f s.1 x e = x := fun f x => if_pos q
      rw [u, u, u, u]
      refine ⟨hl, hd, Nat.two_pow_pos _, Nat.two_pow_pos _, Nat.zero_testBit _, fun f hf => ?_⟩
      rw [Nat.zero_testBit]
      by_cases q2 : f = s.1
      · rw [show updN (sK s) s.1 0 f = 0 from if_pos q2, Nat.zero_testBit]
      · rw [updN_in q2, q]
        exact (tb_false_of_lt (w2 f (by omega)).2.2.2.1 (Nat.le_refl _)).symm
    · rw [updN_in q, updN_in q, updN_in q, updN_in q]
      obtain ⟨a1, a2, a3, a4, a5, a6⟩ := w2 e (by omega)
      refine ⟨a1, a2, by omega, by omega, a5, fun f hf => ?_⟩
      by_cases q2 : f = s.1
      · rw [show updN (sK s) s.1 0 f = 0 from if_pos q2, Nat.zero_testBit, q2]
        exact tb_false_of_lt a4 (Nat.le_refl _)
      · rw [updN_in q2]; exact a6 f (by omega)
  · have he : e < s.1 + 1 := he
    have hf : f < s.1 + 1 := hf
    have h : (updN (sC s) s.1 0 f).testBit e = true := h
    by_cases q2 : f = s.1
    · rw [show updN (sC s) s.1 0 f = 0 from if_pos q2, Nat.zero_testBit] at h; cases h
    · rw [updN_in q2] at h
      exact w3 e f (bit_lt_of (w2 f (by omega)).2.2.1 h) (by omega) h
theorem lab_wf {s : Str} {e l : Nat} (hw : WfS s) (hl : l < 6) : WfS (labS s e l) := by
  obtain ⟨w1, w2, r, w3⟩ := id hw
  refine ⟨w1, fun x hx => ?_, r, w3⟩
  obtain ⟨a1, a2, a3, a4, a5, a6⟩ := w2 x hx
  refine ⟨?_, a2, a3, a4, a5, a6⟩
  show updN (sL s) e l x < 6
  by_cases q : x = e
  · rw [show updN (sL s) e l x = l from if_pos q]; exact hl
  · rw [updN_in q]; exact a1
theorem clr_wf {s : Str} : WfS (0, s.2) := ⟨Nat.zero_le _, fun e he => absurd he (Nat.not_lt_zero e), fun _ => 0, fun e f he => absurd he (Nat.not_lt_zero e)⟩
theorem cau_wf {s : Str} {e f : Nat} (hw : WfS s) (he : e < s.1) (hf : f < s.1) (hc : (hst s e).testBit f = false) : WfS (cauS s e f) := by
  obtain ⟨w1, w2, r, w3⟩ := id hw
  refine ⟨w1, fun x hx => ?_, fun x => r x + (if (hst s x).testBit f then r e + 1 else 0), fun a b ha hb h => ?_⟩
  · obtain ⟨a1, a2, a3, a4, a5, a6⟩ := w2 x hx
    refine ⟨a1, a2, ?_, a4, a5, a6⟩
    show updN (sC s) f (sC s f ||| 2 ^ e) x < 2 ^ s.1
    by_cases q : x = f
    · rw [show updN (sC s) f (sC s f ||| 2 ^ e) x = sC s f ||| 2 ^ e from if_pos q]
      exact Nat.or_lt_two_pow (w2 f hf).2.2.1 (pow_lt he)
    · rw [updN_in q]; exact a3
  · have h : (updN (sC s) f (sC s f ||| 2 ^ e) b).testBit a = true := h
    have ha : a < s.1 := ha
    have hb : b < s.1 := hb
    show r a + (if (hst s a).testBit f then r e + 1 else 0) < r b + (if (hst s b).testBit f then r e + 1 else 0)
    have old : (sC s b).testBit a = true → r a + (if (hst s a).testBit f then r e + 1 else 0) < r b + (if (hst s b).testBit f then r e + 1 else 0) := fun h => by
      have h1 := w3 a b ha hb h
      cases hz : (hst s a).testBit f
      · rw [if_F]
        omega
      · have h2 : (hst s b).testBit f = true := (hst_un hw hb f).mpr (Or.inr ⟨a, h, hz⟩)
        rw [h2, if_pos rfl]
        omega
    by_cases q : b = f
    · rw [show updN (sC s) f (sC s f ||| 2 ^ e) b = sC s f ||| 2 ^ e from if_pos q, or_pow_bit, Bool.or_eq_true] at h
      rcases h with h | h
      · exact old (by rw [q]; exact h)
      · have hae : e = a := of_decide_eq_true h
        subst hae
        rw [hc, if_F, q, hst_self, if_pos rfl]
        omega
    · rw [updN_in q] at h; exact old h
theorem cof_bit {s : Str} {e f : Nat} (hef : e ≠ f) (x y : Nat) : (sK (cofS s e f) x).testBit y = ((sK s x).testBit y || ((decide (x = e) && decide (f = y)) || (decide (x = f) && decide (e = y)))) := by
  show (updN (updN (sK s) e (sK s e ||| 2 ^ f)) f (updN (sK s) e (sK s e ||| 2 ^ f) f ||| 2 ^ e) x).testBit y = _
  by_cases q1 : x = f
  · rw [show updN (updN (sK s) e (sK s e ||| 2 ^ f)) f (updN (sK s) e (sK s e ||| 2 ^ f) f ||| 2 ^ e) x = updN (sK s) e (sK s e ||| 2 ^ f) f ||| 2 ^ e from if_pos q1, updN_in (fun q => hef q.symm), or_pow_bit, decide_eq_true q1, decide_eq_false (show ¬ x = e from fun q => hef (q.symm.trans q1)), q1]
    rfl
  · rw [updN_in q1, decide_eq_false q1]
    by_cases q2 : x = e
    · rw [show updN (sK s) e (sK s e ||| 2 ^ f) x = sK s e ||| 2 ^ f from if_pos q2, or_pow_bit, decide_eq_true q2, q2, Bool.true_and, Bool.false_and, Bool.or_false]
    · rw [updN_in q2, decide_eq_false q2, Bool.false_and, Bool.false_and, Bool.or_false, Bool.or_false]
theorem cof_wf {s : Str} {e f : Nat} (hw : WfS s) (he : e < s.1) (hf : f < s.1) (hef : e ≠ f) : WfS (cofS s e f) := by
  obtain ⟨w1, w2, r, w3⟩ := id hw
  refine ⟨w1, fun x hx => ?_, r, w3⟩
  have hx : x < s.1 := hx
  obtain ⟨a1, a2, a3, a4, a5, a6⟩ := w2 x hx
  refine ⟨a1, a2, a3, ?_, ?_, fun y hy => ?_⟩
  · show sK (cofS s e f) x < 2 ^ s.1
    refine lt_pow_bit.mpr fun i hi => ?_
    rw [cof_bit hef, tb_false_of_lt a4 hi, decide_eq_false (show ¬ f = i by omega), decide_eq_false (show ¬ e = i by omega), Bool.and_false, Bool.and_false]
    rfl
  · rw [cof_bit hef, a5]
    by_cases q1 : x = e
    · rw [decide_eq_true q1, decide_eq_false (show ¬ f = x from fun q => hef (q1.symm.trans q.symm)), decide_eq_false (show ¬ x = f from fun q => hef (q1.symm.trans q))]
      rfl
    · rw [decide_eq_false q1, decide_eq_false (show ¬ e = x from fun q => q1 q.symm), Bool.and_false]
      rfl
  · have hy : y < s.1 := hy
    rw [cof_bit hef, cof_bit hef, a6 y hy]
    congr 1
    rw [decide_eq_decide.mpr (show f = y ↔ y = f from eq_comm), decide_eq_decide.mpr (show e = y ↔ y = e from eq_comm), decide_eq_decide.mpr (show f = x ↔ x = f from eq_comm), decide_eq_decide.mpr (show e = x ↔ x = e from eq_comm)]
    cases decide (x = e) <;> cases decide (x = f) <;> cases decide (y = e) <;> cases decide (y = f) <;> rfl
theorem drop_wf {s : Str} {k : Nat} (hw : WfS s) (hk : k < s.1) : WfS (dropS s k) := by
  obtain ⟨w1, w2, r, w3⟩ := id hw
  have gb : ∀ m i, (gap m k).testBit i = m.testBit (skp k i) := fun m i => by
    rw [gap_bit]
    unfold skp
    split <;> rfl
  have sl : ∀ e, e < s.1 - 1 → skp k e < s.1 := fun e he => by unfold skp; split <;> omega
  have hn1 : s.1 = (s.1 - 1) + 1 := by omega
  refine ⟨by show s.1 - 1 ≤ 8; omega, fun e he => ?_, fun e => r (skp k e), fun e f he hf h => ?_⟩
  · have he : e < s.1 - 1 := he
    obtain ⟨a1, a2, a3, a4, a5, a6⟩ := w2 (skp k e) (sl e he)
    refine ⟨a1, a2, ?_, ?_, ?_, fun f hf => ?_⟩
    · show gap (sC s (skp k e)) k < 2 ^ (s.1 - 1)
      rw [hn1] at a3
      exact gap_lt a3 (by omega)
    · show gap (sK s (skp k e)) k < 2 ^ (s.1 - 1)
      rw [hn1] at a4
      exact gap_lt a4 (by omega)
    · show (gap (sK s (skp k e)) k).testBit e = false
      rw [gb]; exact a5
    · have hf : f < s.1 - 1 := hf
      show (gap (sK s (skp k e)) k).testBit f = (gap (sK s (skp k f)) k).testBit e
      rw [gb, gb]; exact a6 _ (sl f hf)
  · have he : e < s.1 - 1 := he
    have hf : f < s.1 - 1 := hf
    have h : (gap (sC s (skp k f)) k).testBit e = true := h
    rw [gb] at h
    exact w3 _ _ (sl e he) (sl f hf) h
/-! the pure state stays well formed -/
def WfW (σ : Sw) : Prop := ∀ i, i < 2 → WfS (σ.1 i) ∧ cfgB (σ.1 i) (σ.2 i) = true
theorem WfW.set {σ : Sw} {i w : Nat} {s : Str} (h : WfW σ) (h1 : WfS s) (h2 : cfgB s w = true) : WfW (setS σ i s w) := fun j hj => by
  show WfS (va_up σ.1 i s j) ∧ cfgB (va_up σ.1 i s j) (va_up σ.2 i w j) = true
  by_cases e : j = i
  · subst e; rw [up_1, up_1]; exact ⟨h1, h2⟩
  · rw [up_2 e, up_2 e]; exact h j hj
theorem wf_addEvent {σ : Sw} {z l d : Int32} (h : WfW σ) : WfW (oAddEvent σ z l d).2 := by
  unfold oAddEvent
  rcases sIx_c z with ⟨i, hi, rfl, hs⟩ | ⟨hs, n0, n1⟩
  · rw [hs]
    rcases eIx_c (n := 6) (by omega) l with ⟨l', hl, rfl, hs2⟩ | ⟨hs2, hx⟩
    · rw [hs2]
      rcases eIx_c (n := 1000000001) (by omega) d with ⟨d', hd, rfl, hs3⟩ | ⟨hs3, hx⟩
      · rw [hs3]
        show WfW (if (σ.1 i).1 = 8 then _ else _ : Int32 × Sw).2
        split
        · exact h
        · have := (h i hi).1.1
          exact h.set (add_wf (h i hi).1 (by omega) hl (by omega)) cfg_z
      · rw [hs3]; exact h
    · rw [hs2]; exact h
  · rw [hs]; exact h
theorem wf_remove {σ : Sw} {z x : Int32} (h : WfW σ) : WfW (oRemove σ z x).2 := by
  unfold oRemove
  rcases sIx_c z with ⟨i, hi, rfl, hs⟩ | ⟨hs, n0, n1⟩
  · rw [hs]
    have hn := (h i hi).1.1
    rcases eIx_c (n := (σ.1 i).1) (by omega) x with ⟨e, he, rfl, hs2⟩ | ⟨hs2, hx⟩
    · simp only [hs2]; exact h.set (drop_wf (h i hi).1 he) cfg_z
    · simp only [hs2]; exact h
  · rw [hs]; exact h
theorem wf_addCause {σ : Sw} {z x y : Int32} (h : WfW σ) : WfW (oAddCause σ z x y).2 := by
  unfold oAddCause
  rcases sIx_c z with ⟨i, hi, rfl, hs⟩ | ⟨hs, n0, n1⟩
  · rw [hs]
    have hn := (h i hi).1.1
    rcases eIx_c (n := (σ.1 i).1) (by omega) x with ⟨e, he, rfl, hs2⟩ | ⟨hs2, hx⟩
    · simp only [hs2]
      rcases eIx_c (n := (σ.1 i).1) (by omega) y with ⟨f, hf, rfl, hs3⟩ | ⟨hs3, hx⟩
      · simp only [hs3]
        cases hb : (hst (σ.1 i) e).testBit f
        · rw [if_F]; exact h.set (cau_wf (h i hi).1 he hf hb) cfg_z
        · rw [if_pos rfl]; exact h
      · simp only [hs3]; exact h
    · simp only [hs2]; exact h
  · rw [hs]; exact h
theorem wf_addConflict {σ : Sw} {z x y : Int32} (h : WfW σ) : WfW (oAddConflict σ z x y).2 := by
  unfold oAddConflict
  rcases sIx_c z with ⟨i, hi, rfl, hs⟩ | ⟨hs, n0, n1⟩
  · rw [hs]
    have hn := (h i hi).1.1
    rcases eIx_c (n := (σ.1 i).1) (by omega) x with ⟨e, he, rfl, hs2⟩ | ⟨hs2, hx⟩
    · simp only [hs2]
      rcases eIx_c (n := (σ.1 i).1) (by omega) y with ⟨f, hf, rfl, hs3⟩ | ⟨hs3, hx⟩
      · simp only [hs3]
        by_cases hb : e = f
        · rw [if_pos hb]; exact h
        · rw [if_neg hb]; exact h.set (cof_wf (h i hi).1 he hf hb) cfg_z
      · simp only [hs3]; exact h
    · simp only [hs2]; exact h
  · rw [hs]; exact h
theorem wf_setLabel {σ : Sw} {z x y : Int32} (h : WfW σ) : WfW (oSetLabel σ z x y).2 := by
  unfold oSetLabel
  rcases sIx_c z with ⟨i, hi, rfl, hs⟩ | ⟨hs, n0, n1⟩
  · rw [hs]
    have hn := (h i hi).1.1
    rcases eIx_c (n := (σ.1 i).1) (by omega) x with ⟨e, he, rfl, hs2⟩ | ⟨hs2, hx⟩
    · simp only [hs2]
      rcases eIx_c (n := 6) (by omega) y with ⟨f, hf, rfl, hs3⟩ | ⟨hs3, hx⟩
      · simp only [hs3]; exact h.set (lab_wf (h i hi).1 hf) cfg_z
      · simp only [hs3]; exact h
    · simp only [hs2]; exact h
  · rw [hs]; exact h
theorem wf_clear {σ : Sw} {z : Int32} (h : WfW σ) : WfW (oClear σ z).2 := by
  unfold oClear
  rcases sIx_c z with ⟨i, hi, rfl, hs⟩ | ⟨hs, n0, n1⟩
  · rw [hs]; exact h.set clr_wf cfg_z
  · rw [hs]; exact h
theorem wf_copy {σ : Sw} {z y : Int32} (h : WfW σ) : WfW (oCopy σ z y).2 := by
  unfold oCopy
  rcases sIx_c z with ⟨i, hi, rfl, hs⟩ | ⟨hs, n0, n1⟩
  · rw [hs]
    rcases sIx_c y with ⟨j, hj, rfl, hs2⟩ | ⟨hs2, n0, n1⟩
    · simp only [hs2]; exact h.set (h i hi).1 cfg_z
    · simp only [hs2]; exact h
  · rw [hs]; exact h
theorem opn_cfg {s : Str} {m e : Nat} (h : (opn s m).testBit e = true) : cfgB s (m ||| 2 ^ e) = true := by
  unfold opn at h
  rw [bset_bit, Bool.and_eq_true, Bool.and_eq_true] at h
  exact h.2.2
theorem wf_occur {σ : Sw} {z x : Int32} (h : WfW σ) : WfW (oOccur σ z x).2 := by
  unfold oOccur
  rcases sIx_c z with ⟨i, hi, rfl, hs⟩ | ⟨hs, n0, n1⟩
  · rw [hs]
    have hn := (h i hi).1.1
    rcases eIx_c (n := (σ.1 i).1) (by omega) x with ⟨e, he, rfl, hs2⟩ | ⟨hs2, hx⟩
    · simp only [hs2]
      cases hb : (opn (σ.1 i) (σ.2 i)).testBit e
      · rw [if_F]; exact h
      · rw [if_pos rfl]; exact h.set (h i hi).1 (opn_cfg hb)
    · simp only [hs2]; exact h
  · rw [hs]; exact h
theorem wf_withdraw {σ : Sw} {z x : Int32} (h : WfW σ) : WfW (oWithdraw σ z x).2 := by
  unfold oWithdraw
  rcases sIx_c z with ⟨i, hi, rfl, hs⟩ | ⟨hs, n0, n1⟩
  · rw [hs]
    have hn := (h i hi).1.1
    rcases eIx_c (n := (σ.1 i).1) (by omega) x with ⟨e, he, rfl, hs2⟩ | ⟨hs2, hx⟩
    · simp only [hs2]
      have hwd := wd_class (h i hi).1 (h i hi).2 he
      cases hb : wdB (σ.1 i) (σ.2 i) e
      · rw [if_F]; exact h
      · rw [if_pos rfl]
        rw [hb, Bool.and_eq_true] at hwd
        exact h.set (h i hi).1 hwd.2
    · simp only [hs2]; exact h
  · rw [hs]; exact h
theorem wf_refine {σ : Sw} {z y1 y2 y3 : Int32} {q : Bool} (h : WfW σ) : WfW (oRef σ z y1 y2 y3 q).2 := by
  unfold oRef
  rcases sIx_c z with ⟨i, hi, rfl, hs⟩ | ⟨hs, n0, n1⟩
  · rw [hs]
    rcases eIx_c (n := 6) (by omega) y1 with ⟨l, hl, rfl, hs2⟩ | ⟨hs2, hx⟩
    · simp only [hs2]
      rcases eIx_c (n := 6) (by omega) y2 with ⟨f1, hf1, rfl, hs3⟩ | ⟨hs3, hx⟩
      · simp only [hs3]
        rcases eIx_c (n := 6) (by omega) y3 with ⟨f2, hf2, rfl, hs4⟩ | ⟨hs4, hx⟩
        · simp only [hs4]
          by_cases hb : rfN (σ.1 i) l f1 f2 ≤ 8
          · rw [if_pos hb]; exact h.set (rfd_wf (h i hi).1 hf1 hf2 hb) cfg_z
          · rw [if_neg hb]; exact h
        · simp only [hs4]; exact h
      · simp only [hs3]; exact h
    · simp only [hs2]; exact h
  · rw [hs]; exact h
