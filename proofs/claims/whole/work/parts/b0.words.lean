/-! WORDS: fronts, what goes on from them -/
noncomputable def bP (p : Prop) : Bool := @decide p (Classical.propDecidable p)
theorem bP_t {p : Prop} : bP p = true ↔ p := @decide_eq_true_iff p (Classical.propDecidable p)
theorem bP_f {p : Prop} : bP p = false ↔ ¬ p := @decide_eq_false_iff_not p (Classical.propDecidable p)
theorem bP_1 {p : Prop} (h : p) : bP p = true := bP_t.mpr h
theorem bP_0 {p : Prop} (h : ¬ p) : bP p = false := bP_f.mpr h
abbrev Fr : Type := Nat → Prop
def sdF (F : Fr) (i : Nat) : Nat → Prop := fun m => m < 256 ∧ F (256 * i + m)
def neA (A : Nat → Prop) : Prop := ∃ m, A m
def carS (s : Str) (l : Nat) : Nat := bset (fun e => decide (sL s e = l)) s.1
def stA (s : Str) (A : Nat → Prop) (l : Nat) : Nat → Prop := fun t => ∃ m e, A m ∧ (opc s m).testBit e = true ∧ sL s e = l ∧ t = m ||| 2 ^ e
def stF (S : Nat → Str) (F : Fr) (l : Nat) : Fr := fun x => x < 512 ∧ stA (S (x / 256)) (sdF F (x / 256)) l (x % 256)
def dpA (s : Str) (A : Nat → Prop) (d : Nat) : Prop := ∀ m, A m → m < 256 ∧ cfgB s m = true ∧ cntB m 8 = d
def dpF (S : Nat → Str) (F : Fr) (d : Nat) : Prop := (∀ x, F x → x < 512) ∧ ∀ i, i < 2 → dpA (S i) (sdF F i) d
theorem opc_b {s : Str} {m e : Nat} : (opc s m).testBit e = true ↔ e < s.1 ∧ cfgB s m = true ∧ m.testBit e = false ∧ cfgB s (m ||| 2 ^ e) = true := by
  unfold opc
  by_cases hc : cfgB s m = true
  · rw [if_pos hc]
    unfold opn
    rw [bset_bit, Bool.and_eq_true, Bool.and_eq_true, decide_eq_true_eq, Bool.not_eq_true']
    exact ⟨fun q => ⟨q.1, hc, q.2.1, q.2.2⟩, fun q => ⟨q.1, q.2.2.1, q.2.2.2⟩⟩
  · rw [if_neg hc]
    refine ⟨fun q => ?_, fun q => absurd q.2.1 hc⟩
    simp at q
theorem cnt_or {m e : Nat} (he : e < 8) (hm : m.testBit e = false) : cntB (m ||| 2 ^ e) 8 = cntB m 8 + 1 := by
  have h := fb_ct_upd (fun k => m.testBit k) true he
  simp only [hm, Bool.false_eq_true, if_false, if_true, Nat.add_zero] at h
  show fb_ct _ 8 = fb_ct _ 8 + 1
  rw [← h]
  refine fb_ct_cong fun k _ => ?_
  rw [fb_bit_set]
  by_cases hk : k = e
  · subst hk; simp
  · simp [hk]
theorem car_b {s : Str} {l e : Nat} : (carS s l).testBit e = true ↔ e < s.1 ∧ sL s e = l := by
  unfold carS
  rw [bset_bit, Bool.and_eq_true, decide_eq_true_eq, decide_eq_true_eq]
theorem st_dp {s : Str} (hw : WfS s) {A : Nat → Prop} {d l : Nat} (h : dpA s A d) : dpA s (stA s A l) (d + 1) := by
  rintro t ⟨m, e, h1, h2, h3, rfl⟩
  obtain ⟨a1, a2, a3, a4⟩ := opc_b.mp h2
  obtain ⟨b1, b2, b3⟩ := h m h1
  have hn := hw.1
  exact ⟨cfg_lt hw a4, a4, by rw [cnt_or (by omega) a3, b3]⟩
theorem sd_st {S : Nat → Str} {F : Fr} {l i : Nat} (hi : i < 2) (hw : WfS (S i)) {d : Nat} (h : dpA (S i) (sdF F i) d) : sdF (stF S F l) i = stA (S i) (sdF F i) l := by
  funext t
  refine propext ⟨?_, fun q => ?_⟩
  · rintro ⟨h1, h2, h3⟩
    rwa [show (256 * i + t) / 256 = i by omega, show (256 * i + t) % 256 = t by omega] at h3
  · have := (st_dp hw h (l := l) t q).1
    refine ⟨this, by omega, ?_⟩
    rwa [show (256 * i + t) / 256 = i by omega, show (256 * i + t) % 256 = t by omega]
theorem stF_dp {S : Nat → Str} {F : Fr} {l d : Nat} (hw : ∀ i, i < 2 → WfS (S i)) (h : dpF S F d) : dpF S (stF S F l) (d + 1) := by
  refine ⟨fun x hx => hx.1, fun i hi => ?_⟩
  rw [sd_st hi (hw i hi) (h.2 i hi)]
  exact st_dp (hw i hi) (h.2 i hi)
theorem cnt70 : ∀ d, d < 9 → fb_ct (fun m => decide (cntB m 8 = d)) 256 ≤ 70 := by decide +kernel
theorem lst_70 {c d : Nat} {u : Nat → Nat} (h : ∀ i, i < c → u i < 256 ∧ cntB (u i) 8 = d) (hd : ∀ i j, i < j → j < c → u i ≠ u j) : c ≤ 70 := by
  by_cases hc : c = 0
  · omega
  have hd9 : d < 9 := by
    have h1 := (h 0 (by omega)).2
    have h2 := cnt_le (u 0) 8
    omega
  refine Nat.le_trans ?_ (cnt70 d hd9)
  refine fb_holes _ c (fun i => fb_ct (fun m => decide (cntB m 8 = d)) (u i)) (fun i hi => ?_) (fun i j hij hj => ?_)
  · obtain ⟨h1, h2⟩ := h i hi
    have h3 := fb_ct_mono (fun m => decide (cntB m 8 = d)) (show u i + 1 ≤ 256 by omega)
    rw [fb_ct_succ, if_pos (decide_eq_true h2)] at h3
    exact h3
  · intro e
    exact hd i j hij hj (fb_ct_kth_one (decide_eq_true (h i (by omega)).2) (decide_eq_true (h j hj).2) e)
/-- a list of different sets -/
def LstR (A : Nat → Prop) (f : Nat → Int32) (c : Nat) : Prop := ∃ u : Nat → Nat, (∀ i, i < c → f i = nI (u i) ∧ A (u i)) ∧ (∀ i j, i < j → j < c → u i ≠ u j) ∧ ∀ m, A m → ∃ i, i < c ∧ u i = m
theorem LstR.le {s : Str} {A : Nat → Prop} {f : Nat → Int32} {c d : Nat} (h : LstR A f c) (hd : dpA s A d) : c ≤ 70 := by
  obtain ⟨u, h1, h2, -⟩ := h
  exact lst_70 (d := d) (fun i hi => ⟨(hd _ (h1 i hi).2).1, (hd _ (h1 i hi).2).2.2⟩) h2
theorem LstR.ne {A : Nat → Prop} {f : Nat → Int32} {c : Nat} (h : LstR A f c) : bP (neA A) = decide (0 < c) := by
  obtain ⟨u, h1, h2, h3⟩ := h
  by_cases hc : 0 < c
  · rw [decide_eq_true hc]
    exact bP_1 ⟨u 0, (h1 0 hc).2⟩
  · rw [decide_eq_false hc]
    refine bP_0 ?_
    rintro ⟨m, hm⟩
    obtain ⟨i, hi, -⟩ := h3 m hm
    omega
def MkR (MK : Nat → Int32) (mk : Nat) : Prop := ∀ t, t < 256 → ∃ n, MK t = nI n ∧ n ≤ mk
/-- what the class's search rests on -/
def WEnv (a : Nat) (S : Nat → Str) (Sf : Nat → Option Nat) (CR : Nat → Int32) (h : FH) : Prop := ∀ i, i < 2 → WfS (S i) ∧ (∃ p w v, Sf i = some p ∧ p + 13 ≤ a ∧ SpW p (S i) w v h) ∧ ∀ l, l < 6 → CR (i * 6 + l) = nI (carS (S i) l)
theorem WEnv.frame {a : Nat} {S : Nat → Str} {Sf : Nat → Option Nat} {CR : Nat → Int32} {h h' : FH} (x : WEnv a S Sf CR h) (hf : FrO a 33 h h') : WEnv a S Sf CR h' := fun i hi => by
  obtain ⟨h1, ⟨p, w, v, h2, h3, h4⟩, h5⟩ := x i hi
  exact ⟨h1, ⟨p, w, v, h2, h3, h4.frame hf (by omega)⟩, h5⟩
/-- targets of the first j sets and of the first e events of the next one -/
def tgW (c : Nat) (u op : Nat → Nat) (j e : Nat) : Nat → Prop := fun t => ∃ j' e', j' < c ∧ (j' < j ∨ (j' = j ∧ e' < e)) ∧ (op j').testBit e' = true ∧ t = u j' ||| 2 ^ e'
theorem tg_0 {c : Nat} {u op : Nat → Nat} {t : Nat} : ¬ tgW c u op 0 0 t := by
  rintro ⟨j', e', h1, h2, h3, h4⟩
  omega
theorem tg_next {c : Nat} {u op : Nat → Nat} {j e : Nat} (h : ∀ x, e ≤ x → (op j).testBit x = false) : tgW c u op (j + 1) 0 = tgW c u op j e := by
  funext t
  refine propext ⟨?_, ?_⟩
  · rintro ⟨j', e', h1, h2, h3, h4⟩
    refine ⟨j', e', h1, ?_, h3, h4⟩
    by_cases hj : j' < j
    · exact Or.inl hj
    · have : j' = j := by omega
      subst this
      refine Or.inr ⟨rfl, ?_⟩
      rcases Nat.lt_or_ge e' e with q | q
      · exact q
      · rw [h e' q] at h3; cases h3
  · rintro ⟨j', e', h1, h2, h3, h4⟩
    exact ⟨j', e', h1, Or.inl (by omega), h3, h4⟩
theorem tg_no {c : Nat} {u op : Nat → Nat} {j e : Nat} (h : (op j).testBit e = false) : tgW c u op j (e + 1) = tgW c u op j e := by
  funext t
  refine propext ⟨?_, ?_⟩
  · rintro ⟨j', e', h1, h2, h3, h4⟩
    refine ⟨j', e', h1, ?_, h3, h4⟩
    rcases h2 with h2 | ⟨rfl, h2⟩
    · exact Or.inl h2
    · by_cases he : e' = e
      · subst he; rw [h] at h3; cases h3
      · exact Or.inr ⟨rfl, by omega⟩
  · rintro ⟨j', e', h1, h2, h3, h4⟩
    exact ⟨j', e', h1, by omega, h3, h4⟩
theorem tg_yes {c : Nat} {u op : Nat → Nat} {j e : Nat} (hj : j < c) (h : (op j).testBit e = true) : tgW c u op j (e + 1) = fun t => t = u j ||| 2 ^ e ∨ tgW c u op j e t := by
  funext t
  refine propext ⟨?_, ?_⟩
  · rintro ⟨j', e', h1, h2, h3, h4⟩
    rcases h2 with h2 | ⟨rfl, h2⟩
    · exact Or.inr ⟨j', e', h1, Or.inl h2, h3, h4⟩
    · by_cases he : e' = e
      · subst he; exact Or.inl h4
      · exact Or.inr ⟨j', e', h1, Or.inr ⟨rfl, by omega⟩, h3, h4⟩
  · rintro (h2 | ⟨j', e', h1, h2, h3, h4⟩)
    · exact ⟨j, e, hj, Or.inr ⟨rfl, by omega⟩, h, h2⟩
    · exact ⟨j', e', h1, by omega, h3, h4⟩
theorem tg_all {s : Str} {A : Nat → Prop} {l c : Nat} {u : Nat → Nat} (h1 : ∀ i, i < c → A (u i)) (h3 : ∀ m, A m → ∃ i, i < c ∧ u i = m) : tgW c u (fun j => opc s (u j) &&& carS s l) c 0 = stA s A l := by
  funext t
  refine propext ⟨?_, ?_⟩
  · rintro ⟨j', e', g1, g2, g3, g4⟩
    simp only [Nat.testBit_and, Bool.and_eq_true] at g3
    exact ⟨u j', e', h1 j' g1, g3.1, (car_b.mp g3.2).2, g4⟩
  · rintro ⟨m, e, g1, g2, g3, g4⟩
    obtain ⟨i, hi, rfl⟩ := h3 m g1
    refine ⟨i, e, hi, Or.inl hi, ?_, g4⟩
    simp only [Nat.testBit_and, Bool.and_eq_true]
    exact ⟨g2, car_b.mpr ⟨(opc_b.mp g2).1, g3⟩⟩
/-- what the list and the marks hold while a list is made -/
def AdvI (T : Nat → Prop) (n mk : Nat) (f MK : Nat → Int32) : Prop := LstR T f n ∧ ∀ t, t < 256 → ∃ q, MK t = nI q ∧ q ≤ mk ∧ (q = mk ↔ T t)
theorem AdvI.add {T : Nat → Prop} {n mk x : Nat} {f MK : Nat → Int32} (h : AdvI T n mk f MK) (hx : ¬ T x) (hmk : mk < 2147483648) : AdvI (fun t => t = x ∨ T t) (n + 1) mk (upd f n (nI x)) (upd MK x (nI mk)) := by
  obtain ⟨⟨u, h1, h2, h3⟩, h4⟩ := h
  refine ⟨⟨fun i => if i = n then x else u i, fun i hi => ?_, fun i j hij hj => ?_, fun m hm => ?_⟩, fun t ht => ?_⟩
  · by_cases e : i = n
    · subst e
      dsimp only
      rw [if_pos rfl]
      exact ⟨upd_1, Or.inl rfl⟩
    · dsimp only
      rw [if_neg e]
      obtain ⟨a1, a2⟩ := h1 i (by omega)
      exact ⟨(upd_2 e).trans a1, Or.inr a2⟩
  · have hi : i ≠ n := by omega
    simp only [if_neg hi]
    by_cases e : j = n
    · subst e
      simp only [if_true]
      intro q
      exact hx (q ▸ (h1 i (by omega)).2)
    · simp only [if_neg e]
      exact h2 i j hij (by omega)
  · rcases hm with rfl | hm
    · exact ⟨n, by omega, if_pos rfl⟩
    · obtain ⟨i, hi, e⟩ := h3 m hm
      exact ⟨i, by omega, by simp only [if_neg (show i ≠ n by omega)]; exact e⟩
  · by_cases e : t = x
    · subst e
      exact ⟨mk, upd_1, Nat.le_refl _, ⟨fun _ => Or.inl rfl, fun _ => rfl⟩⟩
    · obtain ⟨q, a1, a2, a3⟩ := h4 t ht
      refine ⟨q, (upd_2 e).trans a1, a2, a3.trans ⟨Or.inr, fun z => z.resolve_left e⟩⟩
theorem AdvI.lt {s : Str} {T : Nat → Prop} {n mk x d : Nat} {f MK : Nat → Int32} (h : AdvI T n mk f MK) (hx : ¬ T x) (hd : dpA s (fun t => t = x ∨ T t) d) (hmk : mk < 2147483648) : n < 70 := (h.add hx hmk).1.le hd
theorem AdvI.start {MK : Nat → Int32} {mk : Nat} {c : Nat} {u op : Nat → Nat} {f : Nat → Int32} (h : MkR MK mk) : AdvI (tgW c u op 0 0) 0 (mk + 1) f MK := by
  refine ⟨⟨fun _ => 0, fun i hi => absurd hi (by omega), fun i j hij hj => absurd hj (by omega), fun m hm => absurd hm tg_0⟩, fun t ht => ?_⟩
  obtain ⟨n, h1, h2⟩ := h t ht
  exact ⟨n, h1, by omega, ⟨fun e => by omega, fun e => absurd e tg_0⟩⟩
/-! the cells of Words, one changed -/
section
variable {a : Nat} {mk sr df : Int32} {Sf : Nat → Option Nat} {LS : Nat → Nat → Int32} {SZ CR MK : Nat → Int32} {KY SK : Nat → Int64} {SS SV WD DF CN CV DV : Nat → Int32} {h : FH}
abbrev wObj (a : Nat) (mk sr df : Int32) : FC := .inr (6, [.ref (a + 1), .ref (a + 2), .ref (a + 21), .ref (a + 22), .ref (a + 23), .int mk, .ref (a + 24), .ref (a + 25), .ref (a + 26), .ref (a + 27), .int sr, .ref (a + 28), .ref (a + 29), .int df, .ref (a + 30), .ref (a + 31), .ref (a + 32)])
theorem WrdO.mark (x : WrdO a mk sr df Sf LS SZ CR MK KY SK SS SV WD DF CN CV DV h) (mk' : Int32) : WrdO a mk' sr df Sf LS SZ CR MK KY SK SS SV WD DF CN CV DV (hset h (a) (wObj a mk' sr df)) := by
  obtain ⟨h0, h1, h2, h3, h4, h5, h6, h7, h8, h9, h10, h11, h12, h13, h14, h15⟩ := x
  refine ⟨?_, ?_, ?_, fun i hi => ?_, ?_, ?_, ?_, ?_, ?_, ?_, ?_, ?_, ?_, ?_, ?_, ?_⟩
  case refine_4 => exact (hs_ne (by omega)).trans (h3 i hi)
  all_goals simp (disch := omega) only [hs_eq, hs_ne, h0, h1, h2, h4, h5, h6, h7, h8, h9, h10, h11, h12, h13, h14, h15]
theorem WrdO.srch (x : WrdO a mk sr df Sf LS SZ CR MK KY SK SS SV WD DF CN CV DV h) (sr' : Int32) : WrdO a mk sr' df Sf LS SZ CR MK KY SK SS SV WD DF CN CV DV (hset h (a) (wObj a mk sr' df)) := by
  obtain ⟨h0, h1, h2, h3, h4, h5, h6, h7, h8, h9, h10, h11, h12, h13, h14, h15⟩ := x
  refine ⟨?_, ?_, ?_, fun i hi => ?_, ?_, ?_, ?_, ?_, ?_, ?_, ?_, ?_, ?_, ?_, ?_, ?_⟩
  case refine_4 => exact (hs_ne (by omega)).trans (h3 i hi)
  all_goals simp (disch := omega) only [hs_eq, hs_ne, h0, h1, h2, h4, h5, h6, h7, h8, h9, h10, h11, h12, h13, h14, h15]
theorem WrdO.shor (x : WrdO a mk sr df Sf LS SZ CR MK KY SK SS SV WD DF CN CV DV h) (df' : Int32) : WrdO a mk sr df' Sf LS SZ CR MK KY SK SS SV WD DF CN CV DV (hset h (a) (wObj a mk sr df')) := by
  obtain ⟨h0, h1, h2, h3, h4, h5, h6, h7, h8, h9, h10, h11, h12, h13, h14, h15⟩ := x
  refine ⟨?_, ?_, ?_, fun i hi => ?_, ?_, ?_, ?_, ?_, ?_, ?_, ?_, ?_, ?_, ?_, ?_, ?_⟩
  case refine_4 => exact (hs_ne (by omega)).trans (h3 i hi)
  all_goals simp (disch := omega) only [hs_eq, hs_ne, h0, h1, h2, h4, h5, h6, h7, h8, h9, h10, h11, h12, h13, h14, h15]
theorem WrdO.sizes (x : WrdO a mk sr df Sf LS SZ CR MK KY SK SS SV WD DF CN CV DV h) (SZ' : Nat → Int32) : WrdO a mk sr df Sf LS SZ' CR MK KY SK SS SV WD DF CN CV DV (hset h (a + 21) (aI 18 SZ')) := by
  obtain ⟨h0, h1, h2, h3, h4, h5, h6, h7, h8, h9, h10, h11, h12, h13, h14, h15⟩ := x
  refine ⟨?_, ?_, ?_, fun i hi => ?_, ?_, ?_, ?_, ?_, ?_, ?_, ?_, ?_, ?_, ?_, ?_, ?_⟩
  case refine_4 => exact (hs_ne (by omega)).trans (h3 i hi)
  all_goals simp (disch := omega) only [hs_eq, hs_ne, h0, h1, h2, h4, h5, h6, h7, h8, h9, h10, h11, h12, h13, h14, h15]
theorem WrdO.carr (x : WrdO a mk sr df Sf LS SZ CR MK KY SK SS SV WD DF CN CV DV h) (CR' : Nat → Int32) : WrdO a mk sr df Sf LS SZ CR' MK KY SK SS SV WD DF CN CV DV (hset h (a + 22) (aI 12 CR')) := by
  obtain ⟨h0, h1, h2, h3, h4, h5, h6, h7, h8, h9, h10, h11, h12, h13, h14, h15⟩ := x
  refine ⟨?_, ?_, ?_, fun i hi => ?_, ?_, ?_, ?_, ?_, ?_, ?_, ?_, ?_, ?_, ?_, ?_, ?_⟩
  case refine_4 => exact (hs_ne (by omega)).trans (h3 i hi)
  all_goals simp (disch := omega) only [hs_eq, hs_ne, h0, h1, h2, h4, h5, h6, h7, h8, h9, h10, h11, h12, h13, h14, h15]
theorem WrdO.marks (x : WrdO a mk sr df Sf LS SZ CR MK KY SK SS SV WD DF CN CV DV h) (MK' : Nat → Int32) : WrdO a mk sr df Sf LS SZ CR MK' KY SK SS SV WD DF CN CV DV (hset h (a + 23) (aI 256 MK')) := by
  obtain ⟨h0, h1, h2, h3, h4, h5, h6, h7, h8, h9, h10, h11, h12, h13, h14, h15⟩ := x
  refine ⟨?_, ?_, ?_, fun i hi => ?_, ?_, ?_, ?_, ?_, ?_, ?_, ?_, ?_, ?_, ?_, ?_, ?_⟩
  case refine_4 => exact (hs_ne (by omega)).trans (h3 i hi)
  all_goals simp (disch := omega) only [hs_eq, hs_ne, h0, h1, h2, h4, h5, h6, h7, h8, h9, h10, h11, h12, h13, h14, h15]
theorem WrdO.keys (x : WrdO a mk sr df Sf LS SZ CR MK KY SK SS SV WD DF CN CV DV h) (KY' : Nat → Int64) : WrdO a mk sr df Sf LS SZ CR MK KY' SK SS SV WD DF CN CV DV (hset h (a + 24) (aL 72 KY')) := by
  obtain ⟨h0, h1, h2, h3, h4, h5, h6, h7, h8, h9, h10, h11, h12, h13, h14, h15⟩ := x
  refine ⟨?_, ?_, ?_, fun i hi => ?_, ?_, ?_, ?_, ?_, ?_, ?_, ?_, ?_, ?_, ?_, ?_, ?_⟩
  case refine_4 => exact (hs_ne (by omega)).trans (h3 i hi)
  all_goals simp (disch := omega) only [hs_eq, hs_ne, h0, h1, h2, h4, h5, h6, h7, h8, h9, h10, h11, h12, h13, h14, h15]
theorem WrdO.slotK (x : WrdO a mk sr df Sf LS SZ CR MK KY SK SS SV WD DF CN CV DV h) (SK' : Nat → Int64) : WrdO a mk sr df Sf LS SZ CR MK KY SK' SS SV WD DF CN CV DV (hset h (a + 25) (aL 4096 SK')) := by
  obtain ⟨h0, h1, h2, h3, h4, h5, h6, h7, h8, h9, h10, h11, h12, h13, h14, h15⟩ := x
  refine ⟨?_, ?_, ?_, fun i hi => ?_, ?_, ?_, ?_, ?_, ?_, ?_, ?_, ?_, ?_, ?_, ?_, ?_⟩
  case refine_4 => exact (hs_ne (by omega)).trans (h3 i hi)
  all_goals simp (disch := omega) only [hs_eq, hs_ne, h0, h1, h2, h4, h5, h6, h7, h8, h9, h10, h11, h12, h13, h14, h15]
theorem WrdO.slotS (x : WrdO a mk sr df Sf LS SZ CR MK KY SK SS SV WD DF CN CV DV h) (SS' : Nat → Int32) : WrdO a mk sr df Sf LS SZ CR MK KY SK SS' SV WD DF CN CV DV (hset h (a + 26) (aI 512 SS')) := by
  obtain ⟨h0, h1, h2, h3, h4, h5, h6, h7, h8, h9, h10, h11, h12, h13, h14, h15⟩ := x
  refine ⟨?_, ?_, ?_, fun i hi => ?_, ?_, ?_, ?_, ?_, ?_, ?_, ?_, ?_, ?_, ?_, ?_, ?_⟩
  case refine_4 => exact (hs_ne (by omega)).trans (h3 i hi)
  all_goals simp (disch := omega) only [hs_eq, hs_ne, h0, h1, h2, h4, h5, h6, h7, h8, h9, h10, h11, h12, h13, h14, h15]
theorem WrdO.slotV (x : WrdO a mk sr df Sf LS SZ CR MK KY SK SS SV WD DF CN CV DV h) (SV' : Nat → Int32) : WrdO a mk sr df Sf LS SZ CR MK KY SK SS SV' WD DF CN CV DV (hset h (a + 27) (aI 512 SV')) := by
  obtain ⟨h0, h1, h2, h3, h4, h5, h6, h7, h8, h9, h10, h11, h12, h13, h14, h15⟩ := x
  refine ⟨?_, ?_, ?_, fun i hi => ?_, ?_, ?_, ?_, ?_, ?_, ?_, ?_, ?_, ?_, ?_, ?_, ?_⟩
  case refine_4 => exact (hs_ne (by omega)).trans (h3 i hi)
  all_goals simp (disch := omega) only [hs_eq, hs_ne, h0, h1, h2, h4, h5, h6, h7, h8, h9, h10, h11, h12, h13, h14, h15]
theorem WrdO.word (x : WrdO a mk sr df Sf LS SZ CR MK KY SK SS SV WD DF CN CV DV h) (WD' : Nat → Int32) : WrdO a mk sr df Sf LS SZ CR MK KY SK SS SV WD' DF CN CV DV (hset h (a + 28) (aI 8 WD')) := by
  obtain ⟨h0, h1, h2, h3, h4, h5, h6, h7, h8, h9, h10, h11, h12, h13, h14, h15⟩ := x
  refine ⟨?_, ?_, ?_, fun i hi => ?_, ?_, ?_, ?_, ?_, ?_, ?_, ?_, ?_, ?_, ?_, ?_, ?_⟩
  case refine_4 => exact (hs_ne (by omega)).trans (h3 i hi)
  all_goals simp (disch := omega) only [hs_eq, hs_ne, h0, h1, h2, h4, h5, h6, h7, h8, h9, h10, h11, h12, h13, h14, h15]
theorem WrdO.diff (x : WrdO a mk sr df Sf LS SZ CR MK KY SK SS SV WD DF CN CV DV h) (DF' : Nat → Int32) : WrdO a mk sr df Sf LS SZ CR MK KY SK SS SV WD DF' CN CV DV (hset h (a + 29) (aI 8 DF')) := by
  obtain ⟨h0, h1, h2, h3, h4, h5, h6, h7, h8, h9, h10, h11, h12, h13, h14, h15⟩ := x
  refine ⟨?_, ?_, ?_, fun i hi => ?_, ?_, ?_, ?_, ?_, ?_, ?_, ?_, ?_, ?_, ?_, ?_, ?_⟩
  case refine_4 => exact (hs_ne (by omega)).trans (h3 i hi)
  all_goals simp (disch := omega) only [hs_eq, hs_ne, h0, h1, h2, h4, h5, h6, h7, h8, h9, h10, h11, h12, h13, h14, h15]
theorem WrdO.cnts (x : WrdO a mk sr df Sf LS SZ CR MK KY SK SS SV WD DF CN CV DV h) (CN' : Nat → Int32) : WrdO a mk sr df Sf LS SZ CR MK KY SK SS SV WD DF CN' CV DV (hset h (a + 30) (aI 2 CN')) := by
  obtain ⟨h0, h1, h2, h3, h4, h5, h6, h7, h8, h9, h10, h11, h12, h13, h14, h15⟩ := x
  refine ⟨?_, ?_, ?_, fun i hi => ?_, ?_, ?_, ?_, ?_, ?_, ?_, ?_, ?_, ?_, ?_, ?_, ?_⟩
  case refine_4 => exact (hs_ne (by omega)).trans (h3 i hi)
  all_goals simp (disch := omega) only [hs_eq, hs_ne, h0, h1, h2, h4, h5, h6, h7, h8, h9, h10, h11, h12, h13, h14, h15]
theorem WrdO.cver (x : WrdO a mk sr df Sf LS SZ CR MK KY SK SS SV WD DF CN CV DV h) (CV' : Nat → Int32) : WrdO a mk sr df Sf LS SZ CR MK KY SK SS SV WD DF CN CV' DV (hset h (a + 31) (aI 2 CV')) := by
  obtain ⟨h0, h1, h2, h3, h4, h5, h6, h7, h8, h9, h10, h11, h12, h13, h14, h15⟩ := x
  refine ⟨?_, ?_, ?_, fun i hi => ?_, ?_, ?_, ?_, ?_, ?_, ?_, ?_, ?_, ?_, ?_, ?_, ?_⟩
  case refine_4 => exact (hs_ne (by omega)).trans (h3 i hi)
  all_goals simp (disch := omega) only [hs_eq, hs_ne, h0, h1, h2, h4, h5, h6, h7, h8, h9, h10, h11, h12, h13, h14, h15]
theorem WrdO.dver (x : WrdO a mk sr df Sf LS SZ CR MK KY SK SS SV WD DF CN CV DV h) (DV' : Nat → Int32) : WrdO a mk sr df Sf LS SZ CR MK KY SK SS SV WD DF CN CV DV' (hset h (a + 32) (aI 2 DV')) := by
  obtain ⟨h0, h1, h2, h3, h4, h5, h6, h7, h8, h9, h10, h11, h12, h13, h14, h15⟩ := x
  refine ⟨?_, ?_, ?_, fun i hi => ?_, ?_, ?_, ?_, ?_, ?_, ?_, ?_, ?_, ?_, ?_, ?_, ?_⟩
  case refine_4 => exact (hs_ne (by omega)).trans (h3 i hi)
  all_goals simp (disch := omega) only [hs_eq, hs_ne, h0, h1, h2, h4, h5, h6, h7, h8, h9, h10, h11, h12, h13, h14, h15]
theorem WrdO.row (x : WrdO a mk sr df Sf LS SZ CR MK KY SK SS SV WD DF CN CV DV h) {K : Nat} (hK : K < 18) (f : Nat → Int32) : WrdO a mk sr df Sf (va_up LS K f) SZ CR MK KY SK SS SV WD DF CN CV DV (hset h (a + 3 + K) (aI 70 f)) := by
  obtain ⟨h0, h1, h2, h3, h4, h5, h6, h7, h8, h9, h10, h11, h12, h13, h14, h15⟩ := x
  refine ⟨?_, ?_, ?_, fun i hi => ?_, ?_, ?_, ?_, ?_, ?_, ?_, ?_, ?_, ?_, ?_, ?_, ?_⟩
  case refine_4 =>
    unfold va_up
    by_cases e : i = K
    · subst e
      rw [if_pos rfl]
      exact hs_eq
    · rw [if_neg e]
      exact (hs_ne (by omega)).trans (h3 i hi)
  all_goals simp (disch := omega) only [hs_ne, h0, h1, h2, h4, h5, h6, h7, h8, h9, h10, h11, h12, h13, h14, h15]
end
theorem up_up {α : Type} {f : Nat → α} {k : Nat} {v w : α} : va_up (va_up f k v) k w = va_up f k w := funext fun x => by
  unfold va_up
  split <;> rfl
theorem up_1 {α : Type} {f : Nat → α} {k : Nat} {v : α} : va_up f k v k = v := if_pos rfl
theorem up_2 {α : Type} {f : Nat → α} {k x : Nat} {v : α} (h : x ≠ k) : va_up f k v x = f x := if_neg h
theorem up_id {α : Type} {f : Nat → α} {k : Nat} : va_up f k (f k) = f := funext fun x => by
  unfold va_up
  by_cases e : x = k
  · subst e; rw [if_pos rfl]
  · rw [if_neg e]
theorem tg_dp {s : Str} (hw : WfS s) {A : Nat → Prop} {l c d j e : Nat} {u : Nat → Nat} (h1 : ∀ i, i < c → A (u i)) (hd : dpA s A d) : dpA s (tgW c u (fun j => opc s (u j) &&& carS s l) j e) (d + 1) := by
  rintro t ⟨j', e', g1, g2, g3, g4⟩
  simp only [Nat.testBit_and, Bool.and_eq_true] at g3
  exact st_dp hw (l := l) hd t ⟨u j', e', h1 j' g1, g3.1, (car_b.mp g3.2).2, g4⟩
