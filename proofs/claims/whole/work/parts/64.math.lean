/-! MATHEMATICS: configurations, steps, maximal ones, both ways of telling them -/
theorem and_z {a b : Nat} : a &&& b = 0 ↔ ∀ i, a.testBit i = true → b.testBit i = false := by
  rw [z_bit]
  constructor
  · intro h i hi
    have := h i
    rw [Nat.testBit_and, hi, Bool.true_and] at this
    exact this
  · intro h i
    rw [Nat.testBit_and]
    cases hi : a.testBit i
    · rfl
    · rw [h i hi]; rfl
theorem wf_C {s : Str} (hw : WfS s) {e f : Nat} (he : e < s.1) (h : (sC s e).testBit f = true) : f < s.1 ∧ f ≠ e := by
  have h1 := bit_lt_of (hw.2.1 e he).2.2.1 h
  refine ⟨h1, fun q => ?_⟩
  subst q
  obtain ⟨r, hr⟩ := hw.2.2
  exact absurd (hr f f he he h) (Nat.lt_irrefl _)
theorem wf_K {s : Str} (hw : WfS s) {e f : Nat} (he : e < s.1) (h : (sK s e).testBit f = true) : f < s.1 ∧ f ≠ e ∧ (sK s f).testBit e = true := by
  obtain ⟨-, -, -, h4, h5, h6⟩ := hw.2.1 e he
  have h1 := bit_lt_of h4 h
  refine ⟨h1, fun q => ?_, by rw [← h6 f h1]; exact h⟩
  subst q
  rw [h5] at h; cases h
theorem cfg_b {s : Str} (hw : WfS s) {m : Nat} : cfgB s m = true ↔ m < 2 ^ s.1 ∧ ∀ e, e < s.1 → m.testBit e = true → (∀ f, (sC s e).testBit f = true → m.testBit f = true) ∧ ∀ f, (sK s e).testBit f = true → m.testBit f = false := by
  rw [cfg_t]
  unfold Cfg
  have h8 := p8 hw.1
  constructor
  · rintro ⟨h1, h2⟩
    exact ⟨h1, fun e he hm => ⟨(dif_z (by have := (hw.2.1 e he).2.2.1; omega)).mp (h2 e he hm).1, and_z.mp (h2 e he hm).2⟩⟩
  · rintro ⟨h1, h2⟩
    exact ⟨h1, fun e he hm => ⟨(dif_z (by have := (hw.2.1 e he).2.2.1; omega)).mpr (h2 e he hm).1, and_z.mpr (h2 e he hm).2⟩⟩
theorem cfg_clo {s : Str} (hw : WfS s) {m : Nat} (h : cfgB s m = true) : Clo s m := fun e f he h1 h2 => (((cfg_b hw).mp h).2 e he h1).1 f h2
theorem opn_b {s : Str} (hw : WfS s) {m e : Nat} (hm : cfgB s m = true) (h : (opn s m).testBit e = true) : e < s.1 ∧ m.testBit e = false ∧ (∀ f, (sC s e).testBit f = true → m.testBit f = true) ∧ (∀ f, (sK s e).testBit f = true → m.testBit f = false) ∧ ∀ f, (hst s e).testBit f = true → f = e ∨ m.testBit f = true := by
  obtain ⟨h1, h2, h3⟩ := opn_out h
  have h4 := ((cfg_b hw).mp h3).2 e h1 (by rw [or_pow_bit]; simp)
  have h5 : ∀ f, (sC s e).testBit f = true → m.testBit f = true := fun f hf => by
    have h6 := h4.1 f hf
    rw [or_pow_bit, Bool.or_eq_true, decide_eq_true_eq] at h6
    rcases h6 with h6 | h6
    · exact h6
    · exact absurd h6.symm (wf_C hw h1 hf).2
  refine ⟨h1, h2, h5, fun f hf => ?_, fun f hf => ?_⟩
  · have h6 := h4.2 f hf
    rw [or_pow_bit, Bool.or_eq_false_iff] at h6
    exact h6.1
  · have h7 : Clo s (m ||| 2 ^ e) := cfg_clo hw h3
    have h8 := hst_in h7 (by rw [or_pow_bit]; simp) f hf
    rw [or_pow_bit, Bool.or_eq_true, decide_eq_true_eq] at h8
    rcases h8 with h8 | h8
    · exact Or.inr h8
    · exact Or.inl h8.symm
theorem icf_t {s : Str} {e f : Nat} : icfB s e f = true ↔ ∃ a b, a < s.1 ∧ (hst s e).testBit a = true ∧ (sK s a).testBit b = true ∧ (hst s f).testBit b = true := by
  unfold icfB
  rw [anyN_t]
  constructor
  · rintro ⟨a, ha, h⟩
    rw [Bool.and_eq_true, Bool.not_eq_true', decide_eq_false_iff_not] at h
    obtain ⟨i, hi⟩ := nz_bit.mp h.2
    rw [Nat.testBit_and, Bool.and_eq_true] at hi
    exact ⟨a, i, ha, h.1, hi.1, hi.2⟩
  · rintro ⟨a, b, ha, h1, h2, h3⟩
    refine ⟨a, ha, ?_⟩
    rw [Bool.and_eq_true, Bool.not_eq_true', decide_eq_false_iff_not]
    refine ⟨h1, nz_bit.mpr ⟨b, ?_⟩⟩
    rw [Nat.testBit_and, h2, h3]; rfl
theorem icf_sym {s : Str} (hw : WfS s) {e f : Nat} : icfB s e f = icfB s f e := by
  have key : ∀ e f, icfB s e f = true → icfB s f e = true := fun e f h => by
    obtain ⟨a, b, ha, h1, h2, h3⟩ := icf_t.mp h
    obtain ⟨k1, -, k3⟩ := wf_K hw ha h2
    exact icf_t.mpr ⟨b, a, k1, h3, k3, h1⟩
  rw [Bool.eq_iff_iff]
  exact ⟨key e f, key f e⟩
theorem cc_t {s : Str} {e f : Nat} : ccB s e f = true ↔ e ≠ f ∧ (hst s f).testBit e = false ∧ (hst s e).testBit f = false ∧ icfB s e f = false := by
  unfold ccB blwB
  by_cases q : e = f
  · simp [q]
  · have q2 : ¬ f = e := fun x => q x.symm
    simp [q, q2, Bool.and_assoc, and_assoc]
theorem cc_sym {s : Str} (hw : WfS s) {e f : Nat} : ccB s e f = ccB s f e := by
  rw [Bool.eq_iff_iff, cc_t, cc_t, icf_sym hw (e := e)]
  exact ⟨fun h => ⟨h.1.symm, h.2.2.1, h.2.1, h.2.2.2⟩, fun h => ⟨h.1.symm, h.2.2.1, h.2.1, h.2.2.2⟩⟩
theorem con_t {s : Str} {t : Nat} (ht : t < 2 ^ s.1) (hn : s.1 ≤ 8) : conB s t = true ↔ ∀ e f, t.testBit e = true → t.testBit f = true → e ≠ f → ccB s e f = true := by
  have h8 := p8 hn
  unfold conB
  rw [allN_t]
  constructor
  · intro h e f he hf hne
    have h1 := h e (bit_lt_of ht he)
    rw [he, Bool.not_true, Bool.false_or, decide_eq_true_eq, dif_z (by omega)] at h1
    have h2 := h1 f hf
    rw [or_pow_bit, Bool.or_eq_true, decide_eq_true_eq] at h2
    rcases h2 with h2 | h2
    · unfold cvS at h2
      rw [bset_bit, Bool.and_eq_true] at h2
      exact h2.2
    · exact absurd h2 hne
  · intro h e he
    cases hb : t.testBit e
    · rfl
    · rw [Bool.not_true, Bool.false_or, decide_eq_true_eq, dif_z (by omega)]
      intro f hf
      rw [or_pow_bit, Bool.or_eq_true, decide_eq_true_eq]
      by_cases q : e = f
      · exact Or.inr q
      · left
        unfold cvS
        rw [bset_bit, decide_eq_true (bit_lt_of ht hf), h e f hb hf q]; rfl
/-- enabled events are a step exactly if they lead to a configuration -/
theorem con_cfg {s : Str} (hw : WfS s) {m t : Nat} (hm : cfgB s m = true) (ht : ∀ e, t.testBit e = true → (opn s m).testBit e = true) : cfgB s (m ||| t) = conB s t := by
  have hml := ((cfg_b hw).mp hm).1
  have htl : t < 2 ^ s.1 := by
    rw [lt_pow_bit]
    intro i hi
    cases hb : t.testBit i
    · rfl
    · have := (opn_out (ht i hb)).1; omega
  rw [Bool.eq_iff_iff, con_t htl hw.1]
  constructor
  · intro hc e f he hf hne
    obtain ⟨e1, e2, e3, e4, e5⟩ := opn_b hw hm (ht e he)
    obtain ⟨f1, f2, f3, f4, f5⟩ := opn_b hw hm (ht f hf)
    have hb := (cfg_b hw).mp hc
    have inE : ∀ a, (hst s e).testBit a = true → (m ||| t).testBit a = true := fun a ha => by
      rw [Nat.testBit_or]
      rcases e5 a ha with q | q
      · subst q; rw [he, Bool.or_true]
      · rw [q, Bool.true_or]
    have inF : ∀ a, (hst s f).testBit a = true → (m ||| t).testBit a = true := fun a ha => by
      rw [Nat.testBit_or]
      rcases f5 a ha with q | q
      · subst q; rw [hf, Bool.or_true]
      · rw [q, Bool.true_or]
    rw [cc_t]
    refine ⟨hne, ?_, ?_, ?_⟩
    · cases hx : (hst s f).testBit e
      · rfl
      · rcases f5 e hx with q | q
        · exact absurd q hne
        · rw [e2] at q; cases q
    · cases hx : (hst s e).testBit f
      · rfl
      · rcases e5 f hx with q | q
        · exact absurd q.symm hne
        · rw [f2] at q; cases q
    · cases hx : icfB s e f
      · rfl
      · obtain ⟨a, b, ha, h1, h2, h3⟩ := icf_t.mp hx
        have := (hb.2 a ha (inE a h1)).2 b h2
        rw [inF b h3] at this; cases this
  · intro h
    rw [cfg_b hw]
    refine ⟨Nat.or_lt_two_pow hml htl, fun e he hb => ?_⟩
    have hmb := (cfg_b hw).mp hm
    rw [Nat.testBit_or, Bool.or_eq_true] at hb
    cases hme : m.testBit e
    · have hte : t.testBit e = true := by
        rcases hb with q | q
        · rw [hme] at q; cases q
        · exact q
      obtain ⟨e1, e2, e3, e4, e5⟩ := opn_b hw hm (ht e hte)
      refine ⟨fun f hf => by rw [Nat.testBit_or, e3 f hf, Bool.true_or], fun f hf => ?_⟩
      rw [Nat.testBit_or, e4 f hf, Bool.false_or]
      cases htf : t.testBit f
      · rfl
      · obtain ⟨k1, k2, k3⟩ := wf_K hw he hf
        have hcc := h e f hte htf (Ne.symm k2)
        rw [cc_t] at hcc
        have : icfB s e f = true := icf_t.mpr ⟨e, f, he, hst_self e, hf, hst_self f⟩
        rw [hcc.2.2.2] at this; cases this
    · refine ⟨fun f hf => by rw [Nat.testBit_or, (hmb.2 e he hme).1 f hf, Bool.true_or], fun f hf => ?_⟩
      rw [Nat.testBit_or, (hmb.2 e he hme).2 f hf, Bool.false_or]
      cases htf : t.testBit f
      · rfl
      · obtain ⟨k1, k2, k3⟩ := wf_K hw he hf
        have := (opn_b hw hm (ht f htf)).2.2.2.1 e k3
        rw [hme] at this; cases this
theorem opc_of {s : Str} {m : Nat} (h : cfgB s m = true) : opc s m = opn s m := by unfold opc; rw [h]; rfl
theorem stp_eq {s : Str} (hw : WfS s) {m t : Nat} (hm : cfgB s m = true) (ht : t < 256) : stpB s m t = stpM s m t := by
  unfold stpB stpM
  rw [opc_of hm]
  cases h0 : decide (t = 0)
  · cases h1 : decide (dif t (opn s m) = 0)
    · rfl
    · rw [decide_eq_true_eq, dif_z (by omega)] at h1
      rw [con_cfg hw hm h1]; rfl
  · rfl
/-- a configuration is maximal if nothing is enabled -/
theorem mx_eq {s : Str} (hw : WfS s) {m : Nat} : mxM s m = (cfgB s m && decide (opn s m = 0)) := by
  unfold mxM
  cases hm : cfgB s m
  · rfl
  · rw [Bool.true_and, Bool.true_and, Bool.eq_iff_iff, allN_t, decide_eq_true_eq, z_bit]
    have hml := ((cfg_b hw).mp hm).1
    constructor
    · intro h e
      cases hb : (opn s m).testBit e
      · rfl
      · exfalso
        obtain ⟨h1, h2, h3⟩ := opn_out hb
        have h4 := h (m ||| 2 ^ e) (Nat.or_lt_two_pow hml (pow_lt h1))
        have h5 : ¬ m ||| 2 ^ e = m := fun q => by
          have := or_pow_bit (m := m) (e := e) (i := e)
          rw [q, h2] at this
          simp at this
        have h6 : (m ||| 2 ^ e) &&& m = m := Nat.eq_of_testBit_eq fun i => by
          rw [Nat.testBit_and, Nat.testBit_or]
          cases m.testBit i <;> simp
        rw [decide_eq_false h5, decide_eq_true h6, h3] at h4
        cases h4
    · intro h o ho
      cases hob : (!decide (o = m) && decide (o &&& m = m)) && cfgB s o
      · rfl
      · exfalso
        rw [Bool.and_eq_true, Bool.and_eq_true, Bool.not_eq_true', decide_eq_false_iff_not, decide_eq_true_eq] at hob
        obtain ⟨⟨h1, h2⟩, h3⟩ := hob
        have h4 := (cfg_b hw).mp h3
        have h5 := (cfg_b hw).mp hm
        have hsub : ∀ i, m.testBit i = true → o.testBit i = true := fun i hi => by
          rw [← h2, Nat.testBit_and, Bool.and_eq_true] at hi
          exact hi.1
        obtain ⟨r, hr⟩ := hw.2.2
        have no : ∀ k e, r e = k → o.testBit e = true → m.testBit e = true := fun k => by
          induction k using Nat.strongRecOn with
          | _ k ih =>
            intro e hk he
            cases hme : m.testBit e
            · exfalso
              have hen := bit_lt_of ho he
              have hop : (opn s m).testBit e = true := by
                unfold opn
                rw [bset_bit, decide_eq_true hen, hme, Bool.true_and, Bool.not_false, Bool.true_and, cfg_b hw]
                refine ⟨Nat.or_lt_two_pow hml (pow_lt hen), fun a ha hab => ?_⟩
                rw [or_pow_bit, Bool.or_eq_true, decide_eq_true_eq] at hab
                have hao : o.testBit a = true := by
                  rcases hab with q | q
                  · exact hsub a q
                  · subst q; exact he
                refine ⟨fun f hf => ?_, fun f hf => ?_⟩
                · rw [or_pow_bit, Bool.or_eq_true]
                  left
                  rcases hab with q | q
                  · exact (h5.2 a ha q).1 f hf
                  · subst q
                    have hfn := (wf_C hw ha hf).1
                    exact ih (r f) (by have := hr f e hfn hen hf; omega) f rfl ((h4.2 e ha he).1 f hf)
                · have h6 := (h4.2 a ha hao).2 f hf
                  rw [or_pow_bit, Bool.or_eq_false_iff]
                  refine ⟨?_, decide_eq_false fun q => ?_⟩
                  · cases hx : m.testBit f
                    · rfl
                    · rw [hsub f hx] at h6; cases h6
                  · subst q
                    rw [he] at h6; cases h6
              rw [h e] at hop; cases hop
            · rfl
        exact h1 (Nat.eq_of_testBit_eq fun i => by
          rw [Bool.eq_iff_iff]
          exact ⟨no _ i rfl, hsub i⟩)
