/-! LANGUAGE, pure: structures put together -/
def maxB (s : Str) (m : Nat) : Bool := cfgB s m && decide (opn s m = 0)
def cpN (s : Str) : Nat := fb_ct (maxB s) 256
def nmx (s : Str) (j : Nat) : Nat := fa_first (fun m => maxB s m && decide (fb_ct (maxB s) m = j)) 256
def cps (op : Nat) (p : Str) : Nat := if op = 59 then cpN p else 1
def empS : Str := (0, fun _ => 0, fun _ => 1, fun _ => 0, fun _ => 0)
def oneS (l : Nat) : Str := (1, fun _ => l, fun _ => 1, fun _ => 0, fun _ => 0)
def tgS (op : Nat) (p q : Str) : Str := (p.1 + cps op p * q.1, fun e => if e < p.1 then sL p e else sL q ((e - p.1) % q.1), fun _ => 1, fun e => if e < p.1 then sC p e else (if op = 59 then nmx p ((e - p.1) / q.1) else 0) ||| sC q ((e - p.1) % q.1) * 2 ^ (p.1 + (e - p.1) / q.1 * q.1), fun e => if e < p.1 then sK p e ||| (if op = 43 then (2 ^ q.1 - 1) * 2 ^ p.1 else 0) else sK q ((e - p.1) % q.1) * 2 ^ (p.1 + (e - p.1) / q.1 * q.1) ||| (if op = 43 then 2 ^ p.1 - 1 else 0))
theorem maxB_lt {s : Str} (hw : WfS s) {m : Nat} (h : maxB s m = true) : m < 2 ^ s.1 := by
  unfold maxB at h
  rw [Bool.and_eq_true] at h
  exact (cfg_t.mp h.1).1
theorem nmx_ok {s : Str} {j : Nat} (h : j < cpN s) : nmx s j < 256 ∧ maxB s (nmx s j) = true ∧ fb_ct (maxB s) (nmx s j) = j := by
  obtain ⟨i, h1, h2, h3⟩ := fb_ct_kth h
  have hp : (maxB s i && decide (fb_ct (maxB s) i = j)) = true := by rw [h2, decide_eq_true h3]; rfl
  have hlt : nmx s j < 256 := by
    rcases Nat.lt_or_ge i (nmx s j) with q | q
    · have := fa_first_no _ _ _ q
      rw [hp] at this
      cases this
    · omega
  have := fa_first_yes _ _ hlt
  rw [Bool.and_eq_true, decide_eq_true_eq] at this
  exact ⟨hlt, this.1, this.2⟩
theorem nmx_of {s : Str} {m : Nat} (hm : m < 256) (h : maxB s m = true) : nmx s (fb_ct (maxB s) m) = m := by
  have hj : fb_ct (maxB s) m < cpN s := by
    have := fb_ct_mono (maxB s) (show m + 1 ≤ 256 by omega)
    rw [fb_ct_succ, if_pos h] at this
    exact this
  obtain ⟨a1, a2, a3⟩ := nmx_ok hj
  exact fb_ct_kth_one a2 h a3
/-- every structure has a maximal configuration -/
theorem cpN_pos {s : Str} (hw : WfS s) : 1 ≤ cpN s := by
  have key : ∀ k m, cfgB s m = true → 8 ≤ cntB m 8 + k → ∃ t, t < 256 ∧ maxB s t = true := by
    intro k
    induction k with
    | zero =>
      intro m hm hk
      refine ⟨m, cfg_lt hw hm, ?_⟩
      unfold maxB
      rw [hm, Bool.true_and, decide_eq_true_eq]
      refine Nat.eq_of_testBit_eq fun e => ?_
      rw [Nat.zero_testBit]
      cases hb : (opn s m).testBit e
      · rfl
      · exfalso
        have h2 : (opc s m).testBit e = true := by rw [opc_of hm]; exact hb
        obtain ⟨o1, o2, o3, o4⟩ := opc_b.mp h2
        have hn := hw.1
        have h3 := cnt_or (m := m) (e := e) (by omega) o3
        have := cnt_le (m ||| 2 ^ e) 8
        omega
    | succ k ih =>
      intro m hm hk
      by_cases ho : opn s m = 0
      · refine ⟨m, cfg_lt hw hm, ?_⟩
        unfold maxB
        rw [hm, ho]; rfl
      · obtain ⟨e, he⟩ := Nat.exists_testBit_of_ne_zero ho
        have h2 : (opc s m).testBit e = true := by rw [opc_of hm]; exact he
        obtain ⟨o1, o2, o3, o4⟩ := opc_b.mp h2
        have hn := hw.1
        have h3 := cnt_or (m := m) (e := e) (by omega) o3
        exact ih _ o4 (by omega)
  obtain ⟨t, h1, h2⟩ := key 8 0 cfg_z (by omega)
  exact fb_ct_pos.mpr ⟨t, h1, h2⟩
theorem tg_idx {n q e : Nat} (h : n ≤ e) {c : Nat} (he : e < n + c * q) : 0 < q ∧ (e - n) % q < q ∧ (e - n) / q < c ∧ e = n + (e - n) / q * q + (e - n) % q := by
  have hq : 0 < q := by
    rcases Nat.eq_zero_or_pos q with z | z
    · subst z; omega
    · exact z
  refine ⟨hq, Nat.mod_lt _ hq, ?_, ?_⟩
  · refine (Nat.div_lt_iff_lt_mul hq).mpr ?_
    omega
  · have := Nat.div_add_mod (e - n) q
    rw [Nat.mul_comm] at this
    omega
theorem cps_pos {op : Nat} {p : Str} (hw : WfS p) : 1 ≤ cps op p := by
  unfold cps
  split
  · exact cpN_pos hw
  · omega
theorem tgS_D {op : Nat} {p q : Str} : ∀ e, sD (tgS op p q) e = 1 := fun _ => rfl
theorem blk_lt {x k b n : Nat} (hx : x < 2 ^ k) (hb : b + k ≤ n) : x * 2 ^ b < 2 ^ n := by
  have h1 : x * 2 ^ b < 2 ^ k * 2 ^ b := Nat.mul_lt_mul_of_pos_right hx (Nat.two_pow_pos b)
  rw [← Nat.pow_add] at h1
  exact Nat.lt_of_lt_of_le h1 (pow_le (by omega))
theorem tg_blk {c q j : Nat} (h : j < c) : j * q + q ≤ c * q := by
  have := Nat.mul_le_mul_right q (show j + 1 ≤ c from h)
  rw [Nat.succ_mul] at this
  exact this
theorem tgS_wf {op : Nat} {p q : Str} (hp : WfS p) (hq : WfS q) (hn : p.1 + cps op p * q.1 ≤ 8) : WfS (tgS op p q) := by
  have hcp := cps_pos (op := op) hp
  have h43 : op = 43 → cps op p = 1 := fun e => by unfold cps; rw [if_neg (by omega)]
  refine ⟨hn, fun e he => ?_, ?_⟩
  · have he : e < p.1 + cps op p * q.1 := he
    by_cases h : e < p.1
    · obtain ⟨a1, a2, a3, a4, a5, a6⟩ := hp.2.1 e h
      have eL : sL (tgS op p q) e = sL p e := if_pos h
      have eC : sC (tgS op p q) e = sC p e := if_pos h
      have eK : sK (tgS op p q) e = sK p e ||| (if op = 43 then (2 ^ q.1 - 1) * 2 ^ p.1 else 0) := if_pos h
      rw [eL, eC, eK]
      have hpn : 2 ^ p.1 ≤ 2 ^ (tgS op p q).1 := pow_le (by show p.1 ≤ p.1 + cps op p * q.1; omega)
      refine ⟨a1, by rw [tgS_D]; omega, Nat.lt_of_lt_of_le a3 hpn, Nat.or_lt_two_pow (Nat.lt_of_lt_of_le a4 hpn) ?_, ?_, fun f hf => ?_⟩
      · split
        · rename_i h4
          refine blk_lt (k := q.1) (by have := Nat.two_pow_pos q.1; omega) ?_
          show p.1 + q.1 ≤ p.1 + cps op p * q.1
          rw [h43 h4]; omega
        · exact Nat.two_pow_pos _
      · rw [Nat.testBit_or, a5, Bool.false_or]
        split
        · rw [Nat.testBit_mul_two_pow, decide_eq_false (by omega)]; rfl
        · exact Nat.zero_testBit _
      · have hf : f < p.1 + cps op p * q.1 := hf
        by_cases h2 : f < p.1
        · have eK2 : sK (tgS op p q) f = sK p f ||| (if op = 43 then (2 ^ q.1 - 1) * 2 ^ p.1 else 0) := if_pos h2
          rw [eK2, Nat.testBit_or, Nat.testBit_or, a6 f h2]
          congr 1
          split
          · rw [Nat.testBit_mul_two_pow, Nat.testBit_mul_two_pow, decide_eq_false (by omega), decide_eq_false (by omega)]; rfl
          · rw [Nat.zero_testBit, Nat.zero_testBit]
        · obtain ⟨i1, i2', i3, i4⟩ := tg_idx (show p.1 ≤ f by omega) hf
          have eK2 : sK (tgS op p q) f = sK q ((f - p.1) % q.1) * 2 ^ (p.1 + (f - p.1) / q.1 * q.1) ||| (if op = 43 then 2 ^ p.1 - 1 else 0) := if_neg h2
          rw [eK2, Nat.testBit_or, Nat.testBit_or, tb_false_of_lt a4 (show p.1 ≤ f by omega), Bool.false_or, Nat.testBit_mul_two_pow, decide_eq_false (show ¬ p.1 + (f - p.1) / q.1 * q.1 ≤ e by omega), Bool.false_and, Bool.false_or]
          split
          · rename_i h4
            rw [h43 h4] at i3 hf
            rw [Nat.testBit_mul_two_pow, Nat.testBit_two_pow_sub_one, Nat.testBit_two_pow_sub_one, decide_eq_true (show p.1 ≤ f by omega), decide_eq_true (show f - p.1 < q.1 by omega), decide_eq_true h]; rfl
          · rw [Nat.zero_testBit, Nat.zero_testBit]
    · obtain ⟨i1, i2', i3, i4⟩ := tg_idx (show p.1 ≤ e by omega) he
      obtain ⟨a1, a2, a3, a4, a5, a6⟩ := hq.2.1 _ i2'
      have eL : sL (tgS op p q) e = sL q ((e - p.1) % q.1) := if_neg h
      have eC : sC (tgS op p q) e = (if op = 59 then nmx p ((e - p.1) / q.1) else 0) ||| sC q ((e - p.1) % q.1) * 2 ^ (p.1 + (e - p.1) / q.1 * q.1) := if_neg h
      have eK : sK (tgS op p q) e = sK q ((e - p.1) % q.1) * 2 ^ (p.1 + (e - p.1) / q.1 * q.1) ||| (if op = 43 then 2 ^ p.1 - 1 else 0) := if_neg h
      rw [eL, eC, eK]
      have hb := tg_blk (q := q.1) i3
      have hpn : 2 ^ p.1 ≤ 2 ^ (tgS op p q).1 := pow_le (by show p.1 ≤ p.1 + cps op p * q.1; omega)
      have hbl : ∀ {x : Nat}, x < 2 ^ q.1 → x * 2 ^ (p.1 + (e - p.1) / q.1 * q.1) < 2 ^ (tgS op p q).1 := fun {x} hx => blk_lt hx (by show _ ≤ p.1 + cps op p * q.1; omega)
      generalize hj : (e - p.1) / q.1 = j at *
      generalize hi : (e - p.1) % q.1 = i at *
      refine ⟨a1, by rw [tgS_D]; omega, Nat.or_lt_two_pow ?_ (hbl a3), Nat.or_lt_two_pow (hbl a4) ?_, ?_, fun f hf => ?_⟩
      · split
        · rename_i h5
          unfold cps at i3
          rw [if_pos h5] at i3
          exact Nat.lt_of_lt_of_le (maxB_lt hp (nmx_ok i3).2.1) hpn
        · exact Nat.two_pow_pos _
      · split
        · have := Nat.two_pow_pos p.1; omega
        · exact Nat.two_pow_pos _
      · rw [Nat.testBit_or, Nat.testBit_mul_two_pow, show e - (p.1 + j * q.1) = i by omega, a5, Bool.and_false, Bool.false_or]
        split
        · rw [Nat.testBit_two_pow_sub_one, decide_eq_false h]
        · exact Nat.zero_testBit _
      · have hf : f < p.1 + cps op p * q.1 := hf
        by_cases h2 : f < p.1
        · have eK2 : sK (tgS op p q) f = sK p f ||| (if op = 43 then (2 ^ q.1 - 1) * 2 ^ p.1 else 0) := if_pos h2
          rw [eK2, Nat.testBit_or, Nat.testBit_or, tb_false_of_lt (hp.2.1 f h2).2.2.2.1 (show p.1 ≤ e by omega), Bool.false_or, Nat.testBit_mul_two_pow, decide_eq_false (show ¬ p.1 + j * q.1 ≤ f by omega), Bool.false_and, Bool.false_or]
          split
          · rename_i h4
            rw [h43 h4] at i3
            have : j = 0 := by omega
            subst this
            rw [Nat.testBit_mul_two_pow, Nat.testBit_two_pow_sub_one, Nat.testBit_two_pow_sub_one, decide_eq_true (show p.1 ≤ e by omega), decide_eq_true (show e - p.1 < q.1 by omega), decide_eq_true h2]; rfl
          · rw [Nat.zero_testBit, Nat.zero_testBit]
        · obtain ⟨k1, k2, k3, k4⟩ := tg_idx (show p.1 ≤ f by omega) hf
          have eK2 : sK (tgS op p q) f = sK q ((f - p.1) % q.1) * 2 ^ (p.1 + (f - p.1) / q.1 * q.1) ||| (if op = 43 then 2 ^ p.1 - 1 else 0) := if_neg h2
          rw [eK2, Nat.testBit_or, Nat.testBit_or]
          generalize hj' : (f - p.1) / q.1 = j' at *
          generalize hi' : (f - p.1) % q.1 = i' at *
          congr 1
          · rw [Nat.testBit_mul_two_pow, Nat.testBit_mul_two_pow]
            rcases Nat.lt_trichotomy j j' with c | c | c
            · have := Nat.mul_le_mul_right q.1 (show j + 1 ≤ j' from c)
              rw [Nat.succ_mul] at this
              rw [tb_false_of_lt a4 (show q.1 ≤ f - (p.1 + j * q.1) by omega), Bool.and_false, decide_eq_false (show ¬ p.1 + j' * q.1 ≤ e by omega), Bool.false_and]
            · subst c
              rw [show f - (p.1 + j * q.1) = i' by omega, show e - (p.1 + j * q.1) = i by omega, decide_eq_true (show p.1 + j * q.1 ≤ f by omega), decide_eq_true (show p.1 + j * q.1 ≤ e by omega), a6 i' k2]
            · have := Nat.mul_le_mul_right q.1 (show j' + 1 ≤ j from c)
              rw [Nat.succ_mul] at this
              rw [decide_eq_false (show ¬ p.1 + j * q.1 ≤ f by omega), Bool.false_and, tb_false_of_lt (hq.2.1 i' k2).2.2.2.1 (show q.1 ≤ e - (p.1 + j' * q.1) by omega), Bool.and_false]
          · split
            · rw [Nat.testBit_two_pow_sub_one, Nat.testBit_two_pow_sub_one, decide_eq_false h, decide_eq_false h2]
            · rw [Nat.zero_testBit, Nat.zero_testBit]
  · obtain ⟨rp, hrp⟩ := hp.2.2
    obtain ⟨rq, hrq⟩ := hq.2.2
    have hB : ∀ e, e < p.1 → rp e < fb_sm (fun e => rp e + 1) p.1 := fun e he => by
      have := fb_sm_part (fun e => rp e + 1) he
      omega
    refine ⟨fun e => if e < p.1 then rp e else fb_sm (fun e => rp e + 1) p.1 + rq ((e - p.1) % q.1), fun e f he hf hb => ?_⟩
    have he : e < p.1 + cps op p * q.1 := he
    have hf : f < p.1 + cps op p * q.1 := hf
    by_cases h2 : f < p.1
    · have eC : sC (tgS op p q) f = sC p f := if_pos h2
      rw [eC] at hb
      have h1 := bit_lt_of (hp.2.1 f h2).2.2.1 hb
      dsimp only
      rw [if_pos h1, if_pos h2]
      exact hrp e f h1 h2 hb
    · obtain ⟨k1, k2, k3, k4⟩ := tg_idx (show p.1 ≤ f by omega) hf
      have eC : sC (tgS op p q) f = (if op = 59 then nmx p ((f - p.1) / q.1) else 0) ||| sC q ((f - p.1) % q.1) * 2 ^ (p.1 + (f - p.1) / q.1 * q.1) := if_neg h2
      rw [eC, Nat.testBit_or, Bool.or_eq_true] at hb
      dsimp only
      rw [if_neg h2]
      by_cases h1 : e < p.1
      · rw [if_pos h1]
        have := hB e h1
        omega
      · rw [if_neg h1]
        rcases hb with hb | hb
        · exfalso
          split at hb
          · rename_i h5
            unfold cps at k3
            rw [if_pos h5] at k3
            have := bit_lt_of (maxB_lt hp (nmx_ok k3).2.1) hb
            omega
          · rw [Nat.zero_testBit] at hb; cases hb
        · rw [Nat.testBit_mul_two_pow, Bool.and_eq_true, decide_eq_true_eq] at hb
          generalize hj' : (f - p.1) / q.1 = j' at *
          have hx := bit_lt_of (hq.2.1 _ k2).2.2.1 hb.2
          have he2 : (e - p.1) % q.1 = e - (p.1 + j' * q.1) := by
            rw [show e - p.1 = (e - (p.1 + j' * q.1)) + j' * q.1 by omega, Nat.add_mul_mod_self_right, Nat.mod_eq_of_lt hx]
          rw [he2]
          have := hrq _ _ hx k2 hb.2
          omega
theorem empS_wf : WfS empS := ⟨by show 0 ≤ 8; omega, fun e he => absurd he (by show ¬ e < 0; omega), fun _ => 0, fun e f he _ _ => absurd he (by show ¬ e < 0; omega)⟩
theorem oneS_wf {l : Nat} (hl : l < 6) : WfS (oneS l) := by
  refine ⟨by show 1 ≤ 8; omega, fun e he => ⟨hl, by show 1 ≤ 1000000000; omega, by show 0 < 2 ^ 1; omega, by show 0 < 2 ^ 1; omega, Nat.zero_testBit _, fun f hf => (by show Nat.testBit 0 f = Nat.testBit 0 e; rw [Nat.zero_testBit, Nat.zero_testBit])⟩, fun _ => 0, fun e f he hf hb => ?_⟩
  have hb : Nat.testBit 0 e = true := hb
  rw [Nat.zero_testBit] at hb
  cases hb
