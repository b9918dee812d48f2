/-! PARSE, mathematics: the class's evaluation out of the tokens -/
def evC1 (t : Nat) (st : List Str) : Option (List Str) := if t = 48 then some (empS :: st) else if 97 ≤ t ∧ t ≤ 102 then (if tot st + 1 ≤ 8 then some (oneS (t - 97) :: st) else none) else evC t st
def evCs : List Nat → List Str → Option (List Str)
  | [], st => some st
  | t :: ts, st => (evC1 t st).bind fun s => evCs ts s
theorem evCs_app : ∀ {a b : List Nat} {st : List Str}, evCs (a ++ b) st = (evCs a st).bind fun s => evCs b s
  | [], b, st => rfl
  | t :: a, b, st => by
    show (evC1 t st).bind (fun s => evCs (a ++ b) s) = ((evC1 t st).bind fun s => evCs a s).bind fun s => evCs b s
    cases evC1 t st with
    | none => rfl
    | some s => exact evCs_app (a := a) (b := b) (st := s)
theorem evN_s {T : Nat → Nat} {i : Nat} : evN T (i + 1) = (evN T i).bind fun s => prC (T i) s.1 s.2 := by
  simp only [evN]
  cases evN T i with
  | none => rfl
  | some s => rfl
theorem flF_id {r : Nat} {W : List Nat} {st : List Str} (h : ∀ w, W.head? = some w → rk w < r) : flF r W st = some (W, st) := by
  cases W with
  | nil => rfl
  | cons w W =>
    have := h w rfl
    unfold flF
    rw [if_neg (by omega)]
theorem flF_comp {r r' : Nat} (hr : r ≤ r') : ∀ {W : List Nat} {st : List Str}, ((flF r' W st).bind fun s => flF r s.1 s.2) = flF r W st
  | [], st => rfl
  | w :: W, st => by
    by_cases g : 1 < st.length ∧ r' ≤ rk w
    · have e1 : flF r' (w :: W) st = (evC w st).bind fun s => flF r' W s := by
        rw [flF, if_pos g]
        cases evC w st <;> rfl
      have e2 : flF r (w :: W) st = (evC w st).bind fun s => flF r W s := by
        rw [flF, if_pos ⟨g.1, by omega⟩]
        cases evC w st <;> rfl
      rw [e1, e2]
      cases evC w st with
      | none => rfl
      | some st' => exact flF_comp hr
    · have e1 : flF r' (w :: W) st = some (w :: W, st) := by rw [flF, if_neg g]
      rw [e1]
      rfl
theorem rk_lt4 (c : Nat) : rk c < 4 := by
  unfold rk
  split
  · omega
  · split
    · omega
    · split <;> omega
theorem prC_op {c : Nat} {W : List Nat} {st : List Str} (hc : c = 59 ∨ c = 124 ∨ c = 43) : prC c W st = (flF (rk c) W st).map fun s => (c :: s.1, s.2) := by
  have h1 : c ≠ 41 := by omega
  have h2 : 0 < rk c := by rcases hc with rfl | rfl | rfl <;> decide
  have h3 : atB c = false := by rcases hc with rfl | rfl | rfl <;> decide
  unfold prC
  rw [if_neg h1, if_pos h2]
  cases flF (rk c) W st with
  | none => rfl
  | some s =>
    dsimp only
    rw [if_neg h1, h3, if_neg (by decide)]
    rfl
theorem prC_par {W : List Nat} {st : List Str} : prC 40 W st = some (40 :: W, st) := rfl
theorem prC_end {W : List Nat} {st : List Str} : prC 41 W st = (flF 1 W st).map fun s => (s.1.tail, s.2) := by
  unfold prC
  rw [if_pos rfl, if_pos (by decide)]
  cases flF 1 W st with
  | none => rfl
  | some s => rfl
theorem prC_0 {W : List Nat} {st : List Str} : prC 48 W st = some (W, empS :: st) := rfl
theorem prC_l {c : Nat} {W : List Nat} {st : List Str} (h : 97 ≤ c ∧ c ≤ 102) : prC c W st = (evC1 c st).map fun s => (W, s) := by
  have h1 : c ≠ 41 := by omega
  have h2 : rk c = 0 := by unfold rk; rw [if_neg (by omega), if_neg (by omega), if_neg (by omega)]
  have h3 : atB c = true := by
    unfold atB
    rw [decide_eq_true h.1, decide_eq_true (show c < 103 by omega), Bool.and_self, Bool.or_true]
  unfold prC evC1
  rw [if_neg h1, h2, if_neg (by decide), if_neg (by omega), if_pos h]
  dsimp only
  rw [if_neg h1, h3, if_pos rfl, if_neg (by omega)]
  split <;> rfl
theorem evC_l2 {o : Nat} {st st' : List Str} (h2 : 1 < st.length) (h : evC o st = some st') : st'.length + 1 = st.length := by
  match st, h2 with
  | q :: p :: r, _ =>
    unfold evC at h
    dsimp only at h
    split at h
    · cases h; rfl
    · cases h
def TopO (W : List Nat) (r : Nat) : Prop := ∀ w, W.head? = some w → rk w < r
def LenO (us : List Nat) (st : List Str) : Prop := ∀ st', evCs us st = some st' → st'.length = st.length + 1
theorem rk_opE {k : Nat} (h1 : 1 ≤ k) (h3 : k ≤ 3) : rk (opK k) = 4 - k := by
  have : k = 1 ∨ k = 2 ∨ k = 3 := by omega
  rcases this with rfl | rfl | rfl <;> rfl
theorem evC1_op {o : Nat} {st : List Str} (ho : o = 59 ∨ o = 124 ∨ o = 43) : evC1 o st = evC o st := by
  unfold evC1
  rw [if_neg (by omega), if_neg (by omega)]
theorem prs_ev {T : Nat → Nat} {n : Nat} : ∀ f, (∀ k p W st p2 us c, k ≤ 3 → p ≤ n → 8 * (n - p) + k + 1 ≤ f → evN T p = some (W, st) → TopO W (4 - k) → prs T n f k p [] = (p2, some us, c) → ((evN T p2).bind fun s => flF (4 - k) s.1 s.2) = (evCs us st).map (fun s => (W, s)) ∧ LenO us st) ∧ (∀ k p W st ts p2 us c, 1 ≤ k → k ≤ 3 → p ≤ n → 8 * (n - p) + 1 ≤ f → ((evN T p).bind fun s => flF (4 - k) s.1 s.2) = (evCs ts st).map (fun s => (W, s)) → LenO ts st → TopO W (4 - k) → prs T n f (k + 3) p ts = (p2, some us, c) → ((evN T p2).bind fun s => flF (4 - k) s.1 s.2) = (evCs us st).map (fun s => (W, s)) ∧ LenO us st) := fun f => by
  induction f with
  | zero => exact ⟨fun k p W st p2 us c _ _ h => by omega, fun k p W st ts p2 us c _ _ _ h => by omega⟩
  | succ f ih =>
    obtain ⟨ih1, ih2⟩ := ih
    refine ⟨fun k p W st p2 us c hk hp hf hN hW hs => ?_, fun k p W st ts p2 us c hk1 hk3 hp hf hN hl hW hs => ?_⟩
    · rcases Nat.eq_zero_or_pos k with rfl | hk1
      · have id4 : ∀ x : Option (List Nat × List Str), (x.bind fun s => flF (4 - 0) s.1 s.2) = x := fun x => by
          cases x with
          | none => rfl
          | some s => exact flF_id fun w _ => rk_lt4 w
        rw [id4]
        cases ht : tkB T n p 40
        · rw [prs0_c ht] at hs
          cases hz : tkB T n p 48
          · rw [hz, if_neg (by decide)] at hs
            split at hs
            · rename_i hl
              cases hs
              rw [evN_s, hN]
              have e : evCs [T p] st = evC1 (T p) st := by
                show (evC1 (T p) st).bind (fun s => some s) = _
                cases evC1 (T p) st <;> rfl
              refine ⟨by rw [e]; exact prC_l hl.2, fun st' h' => ?_⟩
              rw [e] at h'
              unfold evC1 at h'
              rw [if_neg (by omega), if_pos hl.2] at h'
              split at h'
              · cases h'; rfl
              · cases h'
            · cases hs
          · rw [hz, if_pos rfl] at hs
            cases hs
            obtain ⟨-, z2⟩ := tk_lt hz
            rw [evN_s, hN, z2]
            refine ⟨rfl, fun st' h' => ?_⟩
            cases h'; rfl
        · obtain ⟨h1, h2⟩ := tk_lt ht
          obtain ⟨⟨q2, vs?, c1⟩, hs1⟩ : ∃ x, prs T n f 3 (p + 1) [] = x := ⟨_, rfl⟩
          cases vs? with
          | none => rw [prs0_b ht hs1] at hs; cases hs
          | some vs =>
            rw [prs0_a ht hs1] at hs
            cases hz : tkB T n q2 41
            · rw [hz, if_neg (by decide)] at hs; cases hs
            · rw [hz, if_pos rfl] at hs
              cases hs
              obtain ⟨-, z2⟩ := tk_lt hz
              have hN1 : evN T (p + 1) = some (40 :: W, st) := by rw [evN_s, hN, h2]; rfl
              obtain ⟨j1, j2⟩ := ih1 3 (p + 1) (40 :: W) st q2 us c (by omega) h1 (by omega) hN1 (fun w hw => by cases hw; decide) hs1
              refine ⟨?_, j2⟩
              rw [evN_s, z2]
              have j1 : ((evN T q2).bind fun s => flF 1 s.1 s.2) = (evCs us st).map (fun s => (40 :: W, s)) := j1
              have e : ((evN T q2).bind fun s => prC 41 s.1 s.2) = ((evN T q2).bind fun s => flF 1 s.1 s.2).map fun s => (s.1.tail, s.2) := by
                cases evN T q2 with
                | none => rfl
                | some s => exact prC_end
              rw [e, j1]
              cases evCs us st <;> rfl
      · obtain ⟨⟨q2, vs?, c1⟩, hs1⟩ : ∃ x, prs T n f (k - 1) p [] = x := ⟨_, rfl⟩
        cases vs? with
        | none => rw [prsK_e hk1 hk hs1] at hs; cases hs
        | some vs =>
          rw [prsK_s hk1 hk hs1] at hs
          have hpp := prs_pos (T := T) (n := n) f (k - 1) p [] hp
          rw [hs1] at hpp
          have hpp : p ≤ q2 ∧ q2 ≤ n := hpp
          obtain ⟨j1, j2⟩ := ih1 (k - 1) p W st q2 vs c1 (by omega) hp (by omega) hN (fun w hw => by have := hW w hw; omega) hs1
          rw [show 4 - (k - 1) = 5 - k by omega] at j1
          have hs2 : ∃ c2, prs T n f (k + 3) q2 vs = (p2, some us, c2) := by
            obtain ⟨⟨r1, r2, r3⟩, hr⟩ : ∃ x, prs T n f (k + 3) q2 vs = x := ⟨_, rfl⟩
            rw [hr] at hs
            cases hs
            exact ⟨r3, hr⟩
          obtain ⟨c2, hs2⟩ := hs2
          refine ih2 k q2 W st vs p2 us c2 hk1 hk hpp.2 (by omega) ?_ j2 hW hs2
          have e : ((evN T q2).bind fun s => flF (4 - k) s.1 s.2) = ((evN T q2).bind fun s => flF (5 - k) s.1 s.2).bind fun s => flF (4 - k) s.1 s.2 := by
            cases evN T q2 with
            | none => rfl
            | some s => exact (flF_comp (by omega)).symm
          rw [e, j1]
          cases evCs vs st with
          | none => rfl
          | some s => exact flF_id hW
    · cases ht : tkB T n p (opK k)
      · rw [prsL_n hk1 ht] at hs
        cases hs
        exact ⟨hN, hl⟩
      · obtain ⟨h1, h2⟩ := tk_lt ht
        have ho := opK_c k
        have hro := rk_opE hk1 hk3
        obtain ⟨⟨q2, vs?, c1⟩, hs1⟩ : ∃ x, prs T n f (k - 1) (p + 1) [] = x := ⟨_, rfl⟩
        cases vs? with
        | none => rw [prsL_e hk1 ht hs1] at hs; cases hs
        | some vs =>
          rw [prsL_t hk1 ht hs1] at hs
          have hpp := prs_pos (T := T) (n := n) f (k - 1) (p + 1) [] h1
          rw [hs1] at hpp
          have hpp : p + 1 ≤ q2 ∧ q2 ≤ n := hpp
          have hs2 : ∃ c2, prs T n f (k + 3) q2 (ts ++ vs ++ [opK k]) = (p2, some us, c2) := by
            obtain ⟨⟨r1, r2, r3⟩, hr⟩ : ∃ x, prs T n f (k + 3) q2 (ts ++ vs ++ [opK k]) = x := ⟨_, rfl⟩
            rw [hr] at hs
            cases hs
            exact ⟨r3, hr⟩
          obtain ⟨c2, hs2⟩ := hs2
          have hN1 : evN T (p + 1) = (evCs ts st).map fun s => (opK k :: W, s) := by
            rw [evN_s, h2]
            have e2 : ((evN T p).bind fun s => prC (opK k) s.1 s.2) = ((evN T p).bind fun s => flF (4 - k) s.1 s.2).map fun s => (opK k :: s.1, s.2) := by
              cases evN T p with
              | none => rfl
              | some s => show prC (opK k) s.1 s.2 = _; rw [prC_op ho, hro]; rfl
            rw [e2, hN]
            cases evCs ts st <;> rfl
          refine ih2 k q2 W st (ts ++ vs ++ [opK k]) p2 us c2 hk1 hk3 hpp.2 (by omega) ?_ ?_ hW hs2
          · cases hts : evCs ts st with
            | none =>
              rw [hts] at hN1
              have := evN_no hN1 (q2 - (p + 1))
              rw [show p + 1 + (q2 - (p + 1)) = q2 by omega] at this
              rw [this, evCs_app, evCs_app, hts]
              rfl
            | some s1 =>
              rw [hts] at hN1
              have l1 := hl s1 hts
              obtain ⟨j1, j2⟩ := ih1 (k - 1) (p + 1) (opK k :: W) s1 q2 vs c1 (by omega) h1 (by omega) hN1 (fun w hw => by cases hw; omega) hs1
              rw [show 4 - (k - 1) = 5 - k by omega] at j1
              have e : ((evN T q2).bind fun s => flF (4 - k) s.1 s.2) = ((evN T q2).bind fun s => flF (5 - k) s.1 s.2).bind fun s => flF (4 - k) s.1 s.2 := by
                cases evN T q2 with
                | none => rfl
                | some s => exact (flF_comp (by omega)).symm
              rw [e, j1, evCs_app, evCs_app, hts]
              show _ = Option.map _ ((evCs vs s1).bind fun s => evCs [opK k] s)
              cases hvs : evCs vs s1 with
              | none => rfl
              | some s2 =>
                have l2 := j2 s2 hvs
                show flF (4 - k) (opK k :: W) s2 = ((evC1 (opK k) s2).bind fun s => some s).map _
                rw [evC1_op ho, flF, if_pos ⟨by omega, by omega⟩]
                cases evC (opK k) s2 with
                | none => rfl
                | some s3 => exact flF_id hW
          · intro s3 h3
            rw [evCs_app, evCs_app] at h3
            cases hts : evCs ts st with
            | none => rw [hts] at h3; cases h3
            | some s1 =>
              rw [hts] at hN1 h3
              have l1 := hl s1 hts
              obtain ⟨-, j2⟩ := ih1 (k - 1) (p + 1) (opK k :: W) s1 q2 vs c1 (by omega) h1 (by omega) hN1 (fun w hw => by cases hw; omega) hs1
              have h3 : ((evCs vs s1).bind fun s => evCs [opK k] s) = some s3 := h3
              cases hvs : evCs vs s1 with
              | none => rw [hvs] at h3; cases h3
              | some s2 =>
                rw [hvs] at h3
                have l2 := j2 s2 hvs
                have h3 : ((evC1 (opK k) s2).bind fun s => some s) = some s3 := h3
                rw [evC1_op ho] at h3
                cases h4 : evC (opK k) s2 with
                | none => rw [h4] at h3; cases h3
                | some s4 =>
                  rw [h4] at h3
                  cases h3
                  have := evC_l2 (by omega) h4
                  omega
theorem evT_eq {T : Nat → Nat} {n : Nat} {us : List Nat} (h : (prR T n).2.1 = some us) (hn : (prR T n).1 = n) : evT T n = (evCs us []).map (fun s => ([], s)) ∧ LenO us [] := by
  obtain ⟨⟨r1, r2, r3⟩, hr⟩ : ∃ x, prR T n = x := ⟨_, rfl⟩
  rw [hr] at h hn
  have h : r2 = some us := h
  have hn : r1 = n := hn
  subst h; subst hn
  have := (prs_ev (T := T) (n := r1) (8 * r1 + 4)).1 3 0 [] [] r1 us r3 (by omega) (Nat.zero_le _) (by omega) rfl (fun w hw => by cases hw) hr
  refine ⟨?_, this.2⟩
  rw [← this.1]
  unfold evT
  cases evN T r1 <;> rfl
