/-! the law's switch: cases 0 .. n - 1 in a row, each with its break; any other number goes on behind -/
def swC (S : SC) : List ST → List Int → Nat → Nat → Option (Nat × List Nat)
  | [], [], _, pc => some (pc, [])
  | s :: ss, o :: os, base, pc => if jtgt base o = some pc then (match s.1 S pc with
    | some (p1, false, xs) => (swC S ss os base p1).map (fun q => (q.1, xs ++ q.2))
    | _ => none) else none
  | _, _, _, _ => none
def s_sw (e : XI) (cs : List ST) : ST := (fun S pc => match e.1 S 0 pc with
    | some p1 => (match decode (cby S) p1 with
      | .ok (.tableswitch dflt 0 hi offs, len) => if hi + 1 = (cs.length : Int) ∧ offs.toList.length = cs.length ∧ 0 < cs.length then (match jtgt p1 dflt with
        | some t => (swC S cs offs.toList p1 (p1 + len)).map (fun q => (q.1, false, t :: q.2))
        | none => none) else none
      | _ => none)
    | none => none, fun g Q R env h b => e.2 g (fun z h b => if z.toInt < 0 then Q env h b else match cs[z.toInt.toNat]? with | some s => s.2 g Q R env h b | none => Q env h b) env h b)
theorem swC_get {S : SC} : ∀ (cs : List ST) (os : List Int) (base pc p : Nat) (xs : List Nat), swC S cs os base pc = some (p, xs) → ∀ (i : Nat) (s : ST), cs[i]? = some s → ∃ (o : Int) (q p1 : Nat) (ys : List Nat), os[i]? = some o ∧ jtgt base o = some q ∧ s.1 S q = some (p1, false, ys) ∧ ∀ t ∈ ys, t ∈ xs
  | [], os, base, pc, p, xs, h, i, s, hi => by simp at hi
  | s0 :: ss, [], base, pc, p, xs, h, i, s, hi => by simp [swC] at h
  | s0 :: ss, o :: os, base, pc, p, xs, h, i, s, hi => by
    unfold swC at h
    split at h
    · rename_i hj
      split at h
      · rename_i p1 ys h1
        simp only [Option.map_eq_some_iff, Prod.mk.injEq] at h
        obtain ⟨⟨q1, q2⟩, h2, rfl, rfl⟩ := h
        cases i with
        | zero =>
          simp only [List.getElem?_cons_zero, Option.some.injEq] at hi
          subst hi
          exact ⟨o, pc, p1, ys, rfl, hj, h1, fun t ht => List.mem_append_left _ ht⟩
        | succ i =>
          rw [List.getElem?_cons_succ] at hi
          obtain ⟨o', q, p2, zs, e1, e2, e3, e4⟩ := swC_get ss os base p1 q1 q2 h2 i s hi
          exact ⟨o', q, p2, zs, by rw [List.getElem?_cons_succ]; exact e1, e2, e3, fun t ht => List.mem_append_right _ (e4 t ht)⟩
      · cases h
    · cases h
theorem OK_sw {e : XI} {cs : List ST} (he : OKI e) (hcs : ∀ s ∈ cs, OKS s) : OKS (s_sw e cs) := by
  refine ⟨fun S pc q h => ?_, fun g Q Q' R R' env h b hm hr hq => he.2.1 g _ _ env h b (fun v h' b' hv => ?_) hq, fun K X T pc p' al xs hc Q env h b hq kk => ?_⟩
  · unfold s_sw at h
    dsimp only at h
    split at h
    · rename_i p1 h1; exact he.1 S 0 pc p1 h1
    · cases h
  · split at hv
    · rename_i hz
      rw [if_pos hz]
      exact hm _ _ _ hv
    · rename_i hz
      rw [if_neg hz]
      split at hv
      · rename_i s hs
        exact (hcs s (List.mem_of_getElem? hs)).2.1 g _ _ R R' env h' b' hm hr hv
      · rename_i hs
        exact hm _ _ _ hv
  · unfold s_sw at hc hq
    dsimp only at hc hq
    split at hc
    · rename_i p1 h1
      split at hc
      · rename_i dflt hi offs len hd
        split at hc
        · rename_i hn
          obtain ⟨hn1, hn2, hn3⟩ := hn
          split at hc
          · rename_i t ht
            simp only [Option.map_eq_some_iff, Prod.mk.injEq] at hc
            obtain ⟨⟨q1, q2⟩, h2, rfl, rfl, rfl⟩ := hc
            refine he.2.2 K X 0 pc p1 h1 _ env [] h b (Nat.le_refl _) hq (fun z h' b' hz => Jf.of (fl1_of hd (by simp)) ?_)
            have hsz : offs.size = cs.length := by rw [← hn2]; simp
            by_cases hz0 : z.toInt < 0
            · rw [if_pos hz0] at hz
              refine J_switch X hd (tgt := t) ?_ (by omega) ((((kk env h' b' hz).2 t (by simp))).j X)
              rw [if_pos (Or.inl hz0)]
              exact jtgt_ok ht
            · rw [if_neg hz0] at hz
              by_cases hz1 : hi < z.toInt
              · have hnone : cs[z.toInt.toNat]? = none := List.getElem?_eq_none (by omega)
                rw [hnone] at hz
                refine J_switch X hd (tgt := t) ?_ (by omega) ((((kk env h' b' hz).2 t (by simp))).j X)
                rw [if_pos (Or.inr hz1)]
                exact jtgt_ok ht
              · have hlt : z.toInt.toNat < cs.length := by omega
                have hs : cs[z.toInt.toNat]? = some cs[z.toInt.toNat] := List.getElem?_eq_getElem hlt
                generalize cs[z.toInt.toNat] = s at hs
                rw [hs] at hz
                obtain ⟨o, q, p2, ys, e1, e2, e3, e4⟩ := swC_get cs offs.toList p1 (p1 + len) q1 q2 h2 _ s hs
                have hoff : offs.getD (z.toInt - 0).toNat 0 = o := by
                  rw [Int.sub_zero, Array.getD_eq_getD_getElem?, ← Array.getElem?_toList, e1]
                  rfl
                refine J_switch X hd (tgt := q) ?_ (by omega) ?_
                · rw [if_neg (by omega), hoff]
                  exact jtgt_ok e2
                · exact (hcs s (List.mem_of_getElem? hs)).2.2 K X T q p2 false ys e3 _ env h' b' hz (fun e h3 b3 hv => ⟨(fun z => absurd z Bool.false_ne_true), fun t ht => (kk e h3 b3 hv).2 t (List.mem_cons_of_mem _ (e4 t ht))⟩)
          · cases hc
        · cases hc
      · cases hc
    · cases hc
theorem swC_step {S : SC} {s : ST} {ss : List ST} {o : Int} {os : List Int} {base pc p1 p : Nat} {ys xs : List Nat} (hj : jtgt base o = some pc) (h1 : s.1 S pc = some (p1, false, ys)) (h2 : swC S ss os base p1 = some (p, xs)) : swC S (s :: ss) (o :: os) base pc = some (p, ys ++ xs) := by
  unfold swC
  rw [if_pos hj, h1]
  show (swC S ss os base p1).map _ = _
  rw [h2]
  rfl
theorem sw_chk {S : SC} {e : XI} {cs : List ST} {pc p1 t p len : Nat} {dflt hi : Int} {offs : Array Int} {xs : List Nat} (h1 : e.1 S 0 pc = some p1) (hd : decode (cby S) p1 = .ok (.tableswitch dflt 0 hi offs, len)) (hn : hi + 1 = (cs.length : Int) ∧ offs.toList.length = cs.length ∧ 0 < cs.length) (ht : jtgt p1 dflt = some t) (h2 : swC S cs offs.toList p1 (p1 + len) = some (p, xs)) : (s_sw e cs).1 S pc = some (p, false, t :: xs) := by
  unfold s_sw
  try dsimp only
  rw [h1]
  try dsimp only
  rw [hd]
  show (if hi + 1 = (cs.length : Int) ∧ offs.toList.length = cs.length ∧ 0 < cs.length then (match jtgt p1 dflt with | some t => (swC S cs offs.toList p1 (p1 + len)).map (fun q => (q.1, false, t :: q.2)) | none => none) else none) = _
  rw [if_pos hn, ht]
  try dsimp only
  rw [h2]
  rfl
theorem seq_chk {S : SC} {a b : ST} {pc p1 : Nat} {al : Bool} {xs : List Nat} (h1 : a.1 S pc = some (p1, al, xs)) (hf : flA (cby S) xs p1 = true) : (s_seq a b).1 S pc = b.1 S p1 := by
  unfold s_seq
  try dsimp only
  rw [h1]
  try dsimp only
  rw [if_pos hf]
theorem whl_chk {S : SC} {c : XC} {a : ST} {pc p1 p2 p3 : Nat} {ts fs xs ys : List Nat} {al : Bool} (h1 : c.1 S false 0 pc = some (p1, ts, fs)) (hf : flA (cby S) ts p1 = true) (h2 : a.1 S p1 = some (p2, al, xs)) (h3 : ckW S p2 al pc = some (p3, ys)) (hf2 : flA (cby S) (xs ++ ys) pc = true) : (s_whl c a).1 S pc = some (p3, false, fs) := by
  unfold s_whl
  try dsimp only
  rw [h1]
  try dsimp only
  rw [if_pos hf, h2]
  try dsimp only
  rw [h3]
  try dsimp only
  rw [if_pos hf2]
