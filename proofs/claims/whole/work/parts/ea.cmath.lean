/-! MATHEMATICS: the class's answers are the reference's; structures stay well formed -/
theorem if_F {α : Type} {a b : α} : (if false = true then a else b) = b := rfl
theorem cls_icf {s : Str} {e f : Nat} (hf : f < s.1) : (clsM s (hst s e)).testBit f = icfB s e f := by
  unfold clsM
  rw [bset_bit, decide_eq_true hf, Bool.true_and, Bool.eq_iff_iff, icf_t, Bool.not_eq_true', decide_eq_false_iff_not]
  constructor
  · intro hz
    by_cases hex : ∃ i, (hst s f).testBit i = true ∧ (enm s (hst s e)).testBit i = true
    · obtain ⟨i, h1, h2⟩ := hex
      unfold enm at h2
      rw [orf_bit] at h2
      obtain ⟨a, ha, h3⟩ := h2
      have h3 : (if (hst s e).testBit a then sK s a else 0).testBit i = true := h3
      cases hb : (hst s e).testBit a
      · rw [hb, if_F, Nat.zero_testBit] at h3; cases h3
      · rw [hb, if_pos rfl] at h3; exact ⟨a, i, ha, hb, h3, h1⟩
    · refine absurd (and_z.mpr fun i hi => ?_) hz
      cases hb : (enm s (hst s e)).testBit i
      · rfl
      · exact absurd ⟨i, hi, hb⟩ hex
  · rintro ⟨a, i, ha, h1, h2, h3⟩ hz
    have h5 := and_z.mp hz i h3
    have h4 : (enm s (hst s e)).testBit i = true := by
      unfold enm
      rw [orf_bit]
      refine ⟨a, ha, ?_⟩
      show (if (hst s e).testBit a then sK s a else 0).testBit i = true
      rw [h1, if_pos rfl]; exact h2
    rw [h4] at h5; cases h5
theorem ncp_cc {s : Str} (hw : WfS s) {a b : Nat} (hb : b < a) (ha : a < s.1) : (!ncp s a b) = ccB s b a := by
  unfold ncp ccB blwB
  rw [cls_icf (by omega), icf_sym hw (e := a) (f := b), decide_eq_false (show ¬ b = a by omega), decide_eq_false (show ¬ a = b by omega)]
  cases (hst s a).testBit b <;> cases (hst s b).testBit a <;> cases icfB s b a <;> rfl
theorem sm_addE {f g : Nat → Nat} : ∀ n, fb_sm (fun e => f e + g e) n = fb_sm f n + fb_sm g n
  | 0 => rfl
  | n + 1 => by rw [fb_sm_succ, fb_sm_succ, fb_sm_succ, sm_addE n]; omega
theorem tri {p : Nat → Nat → Bool} : ∀ n, fb_sm (fun e => fb_ct (fun f => p f e) e) n = fb_sm (fun e => fb_ct (fun f => decide (e < f) && p e f) n) n
  | 0 => rfl
  | n + 1 => by
    have h0 : fb_ct (fun f => decide (n < f) && p n f) (n + 1) = 0 := ct_cut
    rw [fb_sm_succ, fb_sm_succ, tri n]
    show _ = _ + fb_ct (fun f => decide (n < f) && p n f) (n + 1)
    rw [h0]
    have h1 : fb_sm (fun e => fb_ct (fun f => decide (e < f) && p e f) (n + 1)) n = fb_sm (fun e => fb_ct (fun f => decide (e < f) && p e f) n + (if p e n then 1 else 0)) n := fb_sm_cong fun e he => by
      show fb_ct (fun f => decide (e < f) && p e f) (n + 1) = _
      rw [fb_ct_succ]
      show _ + (if (decide (e < n) && p e n) = true then 1 else 0) = _
      rw [decide_eq_true (show e < n from he), Bool.true_and]
    rw [h1, sm_addE, ← ct_sm (p := fun e => p e n)]
    rfl
theorem pairs_eq {s : Str} (hw : WfS s) : pairsC s = pairsM s := by
  unfold pairsC pairsM
  have h1 : fb_sm (fun e => fb_ct (fun f => !ncp s e f) e) s.1 = fb_sm (fun e => fb_ct (fun f => ccB s f e) e) s.1 := fb_sm_cong fun e he => fb_ct_cong fun f hf => ncp_cc hw hf he
  rw [h1]
  exact tri (p := fun a b => ccB s a b) s.1
theorem cp_range {p : Nat → Bool} : ∀ n, (List.range n).countP p = fb_ct p n
  | 0 => rfl
  | n + 1 => by
    rw [List.range_succ, List.countP_append, cp_range n, fb_ct_succ]
    cases h : p n <;> simp [h]
theorem stp_sub {s : Str} {m t : Nat} (ht : t < 256) (h : stpB s m t = true) : (!decide (t = 0) && decide (t &&& opc s m = t)) = true := by
  unfold stpB at h
  rw [Bool.and_eq_true, Bool.and_eq_true, decide_eq_true_eq] at h
  rw [Bool.and_eq_true, decide_eq_true_eq]
  refine ⟨h.1, Nat.eq_of_testBit_eq fun i => ?_⟩
  have h2 := (dif_z (by omega)).mp h.2.1 i
  rw [Nat.testBit_and]
  cases hb : t.testBit i
  · rfl
  · rw [h2 hb]; rfl
theorem steps_eq {s : Str} (hw : WfS s) {m : Nat} (hm : cfgB s m = true) : (subs (opc s m)).countP (stpB s m) = fb_ct (stpM s m) 256 := by
  unfold subs
  rw [List.countP_reverse, List.countP_filter, cp_range]
  refine fb_ct_cong fun t ht => ?_
  show (stpB s m t && (!decide (t = 0) && decide (t &&& opc s m = t))) = stpM s m t
  rw [← stp_eq hw hm ht]
  cases hb : stpB s m t
  · rfl
  · rw [stp_sub ht hb]; rfl
theorem best_n {s : Str} (hw : WfS s) {m : Nat} (hm : cfgB s m = true) {q : Nat → Bool} (hq : ∀ t, t < 256 → stpB s m t = true → q t = true) : ∀ n z, n ≤ 256 → (((List.range n).filter q).reverse).foldl (bestF s m) z = if popc z < popc (lgM s m n) then lgM s m n else z
  | 0, z, _ => by
    show z = if popc z < popc 0 then 0 else z
    rw [if_neg (by rw [show popc 0 = 0 from rfl]; omega)]
  | n + 1, z, h => by
    have e1 : (List.filter q [n]).reverse.foldl (bestF s m) z = bestF s m z n := by
      cases hb : q n
      · have hs : stpB s m n = false := by
          cases hc : stpB s m n
          · rfl
          · rw [hq n (by omega) hc] at hb; cases hb
        have : List.filter q [n] = [] := by simp [hb]
        rw [this]
        unfold bestF
        rw [hs, Bool.and_false]
        rfl
      · have : List.filter q [n] = [n] := by simp [hb]
        rw [this]
        rfl
    rw [List.range_succ, List.filter_append, List.reverse_append, List.foldl_append, e1, best_n hw hm hq n _ (by omega)]
    have eb : bestF s m z n = if decide (popc z < popc n) && stpM s m n then n else z := by
      unfold bestF
      rw [stp_eq hw hm (by omega)]
    have el : lgM s m (n + 1) = if stpM s m n && decide (popc (lgM s m n) ≤ popc n) then n else lgM s m n := rfl
    rw [eb, el]
    cases hS : stpM s m n
    · rw [Bool.and_false, Bool.false_and, if_F, if_F]
    · rw [Bool.and_true, Bool.true_and]
      by_cases c1 : popc z < popc n
      · rw [decide_eq_true c1, if_pos rfl]
        by_cases c2 : popc (lgM s m n) ≤ popc n
        · rw [decide_eq_true c2, if_pos rfl, if_neg (by omega), if_pos c1]
        · rw [decide_eq_false c2, if_F, if_pos (by omega), if_pos (by omega)]
      · rw [decide_eq_false c1, if_F]
        by_cases c2 : popc (lgM s m n) ≤ popc n
        · rw [decide_eq_true c2, if_pos rfl, if_neg (by omega), if_neg c1]
        · rw [decide_eq_false c2, if_F]
theorem pop_pos : ∀ t, t < 256 → t ≠ 0 → 0 < popc t := by decide +kernel
theorem lg_pos {s : Str} {m : Nat} : ∀ n, n ≤ 256 → lgM s m n = 0 ∨ 0 < popc (lgM s m n)
  | 0, _ => Or.inl rfl
  | n + 1, h => by
    have el : lgM s m (n + 1) = if stpM s m n && decide (popc (lgM s m n) ≤ popc n) then n else lgM s m n := rfl
    rw [el]
    split
    · by_cases hn : n = 0
      · exact Or.inl hn
      · exact Or.inr (pop_pos n (by omega) hn)
    · exact lg_pos n (by omega)
theorem best_eq {s : Str} (hw : WfS s) {m : Nat} (hm : cfgB s m = true) : (subs (opc s m)).foldl (bestF s m) 0 = lgM s m 256 := by
  unfold subs
  rw [best_n hw hm (fun t ht h => stp_sub ht h) 256 0 (Nat.le_refl _)]
  rcases lg_pos (s := s) (m := m) 256 (Nat.le_refl _) with h | h
  · rw [h]; rfl
  · rw [if_pos (by rw [show popc 0 = 0 from rfl]; exact h)]
theorem wd_class {s : Str} (hw : WfS s) {w e : Nat} (hc : cfgB s w = true) (he : e < s.1) : (w.testBit e && cfgB s (dif w (2 ^ e))) = wdB s w e := by
  unfold wdB
  cases hb : w.testBit e
  · rfl
  · rw [Bool.true_and, Bool.true_and, Bool.eq_iff_iff, allN_t]
    have hwl := cfg_lt hw hc
    obtain ⟨c1, c2⟩ := (cfg_b hw).mp hc
    have db : ∀ f, (dif w (2 ^ e)).testBit f = (w.testBit f && !decide (e = f)) := fun f => by
      rw [dif_bit (by omega), Nat.testBit_two_pow]
    constructor
    · intro h f hf
      cases hwf : w.testBit f
      · rfl
      · unfold blwB
        by_cases hef : e = f
        · rw [decide_eq_true hef]; rfl
        · rw [decide_eq_false hef]
          have h1 := hst_in (cfg_clo hw h) (e := f) (by rw [db, hwf, decide_eq_false hef]; rfl) e
          cases hh : (hst s f).testBit e
          · rfl
          · have := h1 hh
            rw [db, decide_eq_true rfl, Bool.not_true, Bool.and_false] at this
            cases this
    · intro h
      refine (cfg_b hw).mpr ⟨Nat.lt_of_le_of_lt (dif_le _ _) c1, fun f hf hm => ?_⟩
      rw [db, Bool.and_eq_true] at hm
      obtain ⟨m1, m2⟩ := hm
      have hef : ¬ e = f := fun q => by rw [decide_eq_true q] at m2; cases m2
      obtain ⟨d1, d2⟩ := c2 f hf m1
      refine ⟨fun g hg => ?_, fun g hg => ?_⟩
      · rw [db, d1 g hg, Bool.true_and]
        by_cases heg : e = g
        · exfalso
          subst heg
          have h1 := h f hf
          rw [m1, Bool.true_and, Bool.not_eq_true'] at h1
          unfold blwB at h1
          have h2 : (hst s f).testBit e = true := (hst_un hw hf e).mpr (Or.inr ⟨e, hg, hst_self e⟩)
          rw [h2, decide_eq_false hef] at h1
          cases h1
        · rw [decide_eq_false heg]; rfl
      · rw [db, d2 g hg]; rfl
