/-! WORDS, mathematics: the layers say what the class says -/
def orE {α : Type} (a b : Option α) : Option α := match a with | some v => some v | none => b
noncomputable def frst (S : Nat → Str) (k : Nat) (L : Lay) (n : Nat) : Option (List Nat) := fstL (fun i => (dW S k (lyF L i)).map (fun u => lyW L i ++ u)) n
theorem frst_s {S : Nat → Str} {k n : Nat} {L : Lay} : frst S k L (n + 1) = orE (frst S k L n) ((dW S k (lyF L n)).map (fun u => lyW L n ++ u)) := by
  unfold frst orE
  cases hz : fstL (fun i => (dW S k (lyF L i)).map (fun u => lyW L i ++ u)) n with
  | none => rw [fst_n hz]
  | some v => rw [fst_y hz]
theorem dL_s {S : Nat → Str} {k l : Nat} {F : Fr} : dL S k F (l + 1) = orE (dL S k F l) (dS S (dW S k) (decide (k = 0)) F l) := by
  unfold dL orE
  cases hz : fstL (dS S (dW S k) (decide (k = 0)) F) l with
  | none => rw [fst_n hz]
  | some v => rw [fst_y hz]
theorem frst_ad {S : Nat → Str} {k c : Nat} {L : Lay} {F : Fr} {v : List Nat} : frst S k (adL L F v c) (lyN (adL L F v c)) = orE (frst S k L (lyN L)) ((dW S k F).map (fun u => v ++ u)) := by
  unfold adL
  cases hz : fndL L F with
  | some i =>
    show frst S k (lyN L, lyF L, lyW L, _) (lyN L) = _
    have e : frst S k (lyN L, lyF L, lyW L, va_up (lyC L) i (lyC L i + c)) (lyN L) = frst S k L (lyN L) := rfl
    rw [e]
    obtain ⟨j, hj, h2⟩ := fst_in (show fstL _ (lyN L) = some i from hz)
    split at h2
    · rename_i hb
      have hb := bP_t.mp hb
      cases hf : frst S k L (lyN L) with
      | some u => rfl
      | none =>
        have h3 : (dW S k (lyF L j)).map (fun u => lyW L j ++ u) = none := by
          cases hd : (dW S k (lyF L j)).map (fun u => lyW L j ++ u) with
          | none => rfl
          | some u =>
            have h4 : frst S k L (j + 1) ≠ none := by
              rw [frst_s, hd]
              unfold orE
              split <;> simp
            cases h5 : frst S k L (j + 1) with
            | none => exact absurd h5 h4
            | some u =>
              have := fst_up (m := lyN L - (j + 1)) (show fstL _ (j + 1) = some u from h5)
              rw [show j + 1 + (lyN L - (j + 1)) = lyN L by omega] at this
              have h6 : frst S k L (lyN L) = some u := this
              rw [hf] at h6
              cases h6
        rw [hb] at h3
        cases hd : dW S k F with
        | none => rfl
        | some u => rw [hd] at h3; cases h3
    · cases h2
  | none =>
    show frst S k (lyN L + 1, va_up (lyF L) (lyN L) F, va_up (lyW L) (lyN L) v, va_up (lyC L) (lyN L) c) (lyN L + 1) = _
    rw [frst_s]
    have e1 : lyF (lyN L + 1, va_up (lyF L) (lyN L) F, va_up (lyW L) (lyN L) v, va_up (lyC L) (lyN L) c) (lyN L) = F := up_1
    have e2 : lyW (lyN L + 1, va_up (lyF L) (lyN L) F, va_up (lyW L) (lyN L) v, va_up (lyC L) (lyN L) c) (lyN L) = v := up_1
    rw [e1, e2]
    congr 1
    refine fst_cong fun i hi => ?_
    have e3 : lyF (lyN L + 1, va_up (lyF L) (lyN L) F, va_up (lyW L) (lyN L) v, va_up (lyC L) (lyN L) c) i = lyF L i := up_2 (by omega)
    have e4 : lyW (lyN L + 1, va_up (lyF L) (lyN L) F, va_up (lyW L) (lyN L) v, va_up (lyC L) (lyN L) c) i = lyW L i := up_2 (by omega)
    rw [e3, e4]
theorem has_c {G : Fr} : (hasN G = 0 ∧ bP (neA (sdF G 0)) = false ∧ bP (neA (sdF G 1)) = false) ∨ (hasN G = 3 ∧ bP (neA (sdF G 0)) = true ∧ bP (neA (sdF G 1)) = true) ∨ ((hasN G = 1 ∨ hasN G = 2) ∧ bP (neA (sdF G 0)) ≠ bP (neA (sdF G 1))) := by
  unfold hasN
  cases bP (neA (sdF G 0)) <;> cases bP (neA (sdF G 1)) <;> simp
/-- the result of one entry -/
theorem mcL_r {S : Nat → Str} {F : Fr} {v : List Nat} {c W : Nat} {t : Lay} : ∀ l, (mcL S true F v c t W l).1 = (dL S 0 F l).map (fun u => v ++ u)
  | 0 => rfl
  | l + 1 => by
    have ih := mcL_r (S := S) (F := F) (v := v) (c := c) (W := W) (t := t) l
    rw [dL_s]
    rcases hz : mcL S true F v c t W l with ⟨r, t', W'⟩
    rw [hz] at ih
    cases r with
    | some r =>
      rw [mcL_k hz 1]
      cases hd : dL S 0 F l with
      | none => rw [hd] at ih; cases ih
      | some u =>
        rw [hd] at ih
        exact ih
    | none =>
      cases hd : dL S 0 F l with
      | some u => rw [hd] at ih; cases ih
      | none =>
        rw [mcL_s hz]
        show _ = Option.map _ (dS S (dW S 0) (decide (0 = 0)) F l)
        unfold dS
        rcases has_c (G := stF S F l) with ⟨h1, h2, h3⟩ | ⟨h1, h2, h3⟩ | ⟨h1, h2⟩
        · rw [h1, h2, h3]
          rfl
        · rw [h1, h2, h3]
          rfl
        · rw [if_neg h2, if_pos (by rcases h1 with h1 | h1 <;> rw [h1] <;> decide), if_pos (by decide)]
          rfl
theorem mcE_r {S : Nat → Str} {A : Lay} {W : Nat} : ∀ i, (mcE S true A W i).1 = frst S 1 A i
  | 0 => rfl
  | i + 1 => by
    have ih := mcE_r (S := S) (A := A) (W := W) i
    rw [frst_s]
    rcases hz : mcE S true A W i with ⟨r, t', W'⟩
    rw [hz] at ih
    cases r with
    | some r =>
      rw [mcE_k hz 1, ← ih]
      rfl
    | none =>
      rw [mcE_s hz, mcL_r, ← ih]
      rfl
/-- what is left for longer words -/
theorem mcL_w {S : Nat → Str} {F : Fr} {v : List Nat} {c W k : Nat} {t : Lay} : ∀ {l : Nat} {t' : Lay} {W' : Nat}, mcL S true F v c t W l = (none, t', W') → frst S k t' (lyN t') = orE (frst S k t (lyN t)) ((dL S k F l).map (fun u => v ++ u))
  | 0, t', W', h => by
    cases h
    show _ = orE (frst S k t (lyN t)) (Option.map _ none)
    unfold orE
    split
    · rename_i h; exact h
    · rename_i h; exact h
  | l + 1, t', W', h => by
    rcases hz : mcL S true F v c t W l with ⟨r, t1, W1⟩
    cases r with
    | some r => rw [mcL_k hz 1] at h; cases h
    | none =>
      have ih := mcL_w (k := k) hz
      rw [mcL_s hz] at h
      rw [dL_s]
      have key : ∀ X : Option (List Nat), (orE (frst S k t (lyN t)) ((orE (dL S k F l) X).map (fun u => v ++ u))) = orE (frst S k t1 (lyN t1)) (X.map (fun u => v ++ u)) := fun X => by
        rw [ih]
        unfold orE
        cases frst S k t (lyN t) with
        | some u => rfl
        | none =>
          cases dL S k F l with
          | some u => rfl
          | none => rfl
      rw [key]
      unfold dS
      rcases has_c (G := stF S F l) with ⟨h1, h2, h3⟩ | ⟨h1, h2, h3⟩ | ⟨h1, h2⟩
      · rw [h1, if_neg (by decide), if_pos rfl] at h
        cases h
        rw [h2, h3, if_pos rfl, if_neg (by decide)]
        unfold orE
        split
        · rename_i h; exact h
        · rename_i h; exact h
      · rw [h1, if_neg (by decide), if_neg (by decide)] at h
        cases h
        rw [h2, h3, frst_ad]
        congr 1
        show _ = Option.map (fun u => v ++ u) (Option.map (fun v => l :: v) (dW S k (stF S F l)))
        rw [Option.map_map]
        cases dW S k (stF S F l) with
        | none => rfl
        | some u =>
          show some (v ++ [l] ++ u) = some (v ++ (l :: u))
          rw [List.append_assoc]
          rfl
      · rw [if_pos (by rcases h1 with h1 | h1 <;> rw [h1] <;> decide)] at h
        cases h
theorem mcE_w {S : Nat → Str} {A : Lay} {W k : Nat} : ∀ {i : Nat} {t : Lay} {W' : Nat}, mcE S true A W i = (none, t, W') → frst S (k + 1) A i = frst S k t (lyN t)
  | 0, t, W', h => by cases h; rfl
  | i + 1, t, W', h => by
    rcases hz : mcE S true A W i with ⟨r, t1, W1⟩
    cases r with
    | some r => rw [mcE_k hz 1] at h; cases h
    | none =>
      have ih := mcE_w (k := k) hz
      rw [mcE_s hz] at h
      rw [mcL_w h, frst_s, ih]
      rfl
theorem mcD_r {S : Nat → Str} {F0 : Fr} : ∀ d, (mcD S true F0 d).1 = fstL (fun k => dW S (k + 1) F0) d ∧ ∀ L W M, mcD S true F0 d = (none, L, W, M) → ∀ k, dW S (d + k) F0 = frst S k L (lyN L)
  | 0 => by
    refine ⟨rfl, fun L W M h k => ?_⟩
    cases h
    show dW S (0 + k) F0 = frst S k _ 1
    rw [frst_s, Nat.zero_add]
    show _ = Option.map (fun u => [] ++ u) (dW S k F0)
    cases dW S k F0 <;> rfl
  | d + 1 => by
    obtain ⟨ih1, ih2⟩ := mcD_r (S := S) (F0 := F0) d
    rcases hz : mcD S true F0 d with ⟨r, L, W, M⟩
    rw [hz] at ih1
    cases r with
    | some r =>
      rw [mcD_k hz 1]
      refine ⟨?_, fun L' W' M' h => by cases h⟩
      exact (fst_y (show fstL _ d = some r from ih1.symm)).symm
    | none =>
      have h2 := ih2 L W M hz
      rw [mcD_s hz]
      have h1 : (mcE S true L W (lyN L)).1 = dW S (d + 1) F0 := by rw [mcE_r, h2 1]
      refine ⟨?_, fun L' W' M' h k => ?_⟩
      · rw [fst_n (show fstL _ d = none from ih1.symm)]
        exact h1
      · rcases hy : mcE S true L W (lyN L) with ⟨r, t, W2⟩
        rw [hy] at h
        cases h
        rw [show d + 1 + k = d + (k + 1) by omega, h2 (k + 1), mcE_w hy]
theorem F00_12 : F00 true true = F12 := funext fun x => propext ⟨fun q => q.imp And.left And.left, fun q => q.imp (fun z => ⟨z, rfl⟩) (fun z => ⟨z, rfl⟩)⟩
theorem differ_eq {S : Nat → Str} : (mcD S true (F00 true true) 8).1 = wdF S := by
  rw [F00_12]
  exact (mcD_r 8).1
/-! how many -/
noncomputable def cX (S : Nat → Str) : Nat → Fr → Nat
  | 0, _ => 0
  | k + 1, F => fb_sm (fun l => if bP (∃ x, stF S F l x) then cW S k (stF S F l) else 0) 6
theorem cX_W {S : Nat → Str} {F : Fr} : ∀ {k : Nat}, cW S k F = 1 + cX S k F
  | 0 => rfl
  | k + 1 => rfl
noncomputable def wtL (S : Nat → Str) (k : Nat) (L : Lay) : Nat := fb_sm (fun i => lyC L i * cX S k (lyF L i)) (lyN L)
theorem wt_ad {S : Nat → Str} {k c : Nat} {L : Lay} {F : Fr} {v : List Nat} : wtL S k (adL L F v c) = wtL S k L + c * cX S k F := by
  unfold adL
  cases hz : fndL L F with
  | some i =>
    obtain ⟨j, hj, h2⟩ := fst_in (show fstL _ (lyN L) = some i from hz)
    split at h2
    · rename_i hb
      have hb := bP_t.mp hb
      cases h2
      have h := fb_sm_upd (fun i => lyC L i * cX S k (lyF L i)) ((lyC L i + c) * cX S k (lyF L i)) hj
      show fb_sm (fun z => va_up (lyC L) i (lyC L i + c) z * cX S k (lyF L z)) (lyN L) = fb_sm _ (lyN L) + _
      have e : fb_sm (fun z => va_up (lyC L) i (lyC L i + c) z * cX S k (lyF L z)) (lyN L) = fb_sm (fun z => if z = i then (lyC L i + c) * cX S k (lyF L i) else lyC L z * cX S k (lyF L z)) (lyN L) := fb_sm_cong fun z _ => by
        unfold va_up
        by_cases ez : z = i
        · subst ez; rw [if_pos rfl, if_pos rfl]
        · rw [if_neg ez, if_neg ez]
      rw [e]
      rw [hb] at h ⊢
      rw [Nat.add_mul] at h ⊢
      omega
    · cases h2
  | none =>
    show fb_sm (fun z => va_up (lyC L) (lyN L) c z * cX S k (va_up (lyF L) (lyN L) F z)) (lyN L + 1) = _
    rw [fb_sm_succ, up_1, up_1]
    congr 1
    refine fb_sm_cong fun z hz => ?_
    rw [up_2 (by omega), up_2 (by omega)]
theorem has_0 {G : Fr} (h : ∀ x, G x → x < 512) : hasN G = 0 ↔ bP (∃ x, G x) = false := by
  rw [bP_f]
  constructor
  · intro hz
    rcases has_c (G := G) with ⟨h1, h2, h3⟩ | ⟨h1, h2, h3⟩ | ⟨h1, h2⟩
    · rintro ⟨x, hx⟩
      have hlt := h x hx
      have e : sdF G (x / 256) (x % 256) := ⟨by omega, by rwa [show 256 * (x / 256) + x % 256 = x by omega]⟩
      rcases i2 (show x / 256 < 2 by omega) with q | q <;> rw [q] at e
      · exact bP_f.mp h2 ⟨_, e⟩
      · exact bP_f.mp h3 ⟨_, e⟩
    · omega
    · omega
  · intro hz
    have e0 : bP (neA (sdF G 0)) = false := bP_0 (by rintro ⟨m, h1, h2⟩; exact hz ⟨_, h2⟩)
    have e1 : bP (neA (sdF G 1)) = false := bP_0 (by rintro ⟨m, h1, h2⟩; exact hz ⟨_, h2⟩)
    unfold hasN
    rw [e0, e1]
    rfl
theorem mcL_c {S : Nat → Str} {F : Fr} {v : List Nat} {c W k : Nat} {t : Lay} : ∀ l, (mcL S false F v c t W l).1 = none ∧ (mcL S false F v c t W l).2.2 + wtL S k (mcL S false F v c t W l).2.1 = W + wtL S k t + c * fb_sm (fun l => if bP (∃ x, stF S F l x) then cW S k (stF S F l) else 0) l
  | 0 => ⟨rfl, by show W + wtL S k t = W + wtL S k t + c * 0; rw [Nat.mul_zero]; rfl⟩
  | l + 1 => by
    obtain ⟨ih1, ih2⟩ := mcL_c (S := S) (F := F) (v := v) (c := c) (W := W) (k := k) (t := t) l
    rcases hz : mcL S false F v c t W l with ⟨r, t', W'⟩
    rw [hz] at ih1 ih2
    cases ih1
    rw [mcL_s hz, fb_sm_succ, Nat.mul_add, Bool.false_and, if_neg (by decide)]
    have h0 := has_0 (G := stF S F l) (fun x hx => hx.1)
    cases hb : bP (∃ x, stF S F l x)
    · rw [if_pos (h0.mpr hb), if_neg (by decide), Nat.mul_zero]
      exact ⟨rfl, ih2⟩
    · rw [if_neg (fun q => by rw [h0.mp q] at hb; cases hb), if_pos rfl]
      refine ⟨rfl, ?_⟩
      show W' + c + wtL S k (adL t' (stF S F l) (v ++ [l]) (if false = true then 1 else c)) = _
      have ih2 : W' + wtL S k t' = _ := ih2
      rw [show (if false = true then 1 else c) = c from rfl, wt_ad, cX_W (k := k), Nat.mul_add, Nat.mul_one]
      omega
theorem mcE_c {S : Nat → Str} {A : Lay} {W k : Nat} : ∀ i, (mcE S false A W i).1 = none ∧ (mcE S false A W i).2.2 + wtL S k (mcE S false A W i).2.1 = W + fb_sm (fun i => lyC A i * cX S (k + 1) (lyF A i)) i
  | 0 => ⟨rfl, rfl⟩
  | i + 1 => by
    obtain ⟨ih1, ih2⟩ := mcE_c (S := S) (A := A) (W := W) (k := k) i
    rcases hz : mcE S false A W i with ⟨r, t', W'⟩
    rw [hz] at ih1 ih2
    cases ih1
    have ih2 : W' + wtL S k t' = _ := ih2
    rw [mcE_s hz, fb_sm_succ]
    obtain ⟨h1, h2⟩ := mcL_c (S := S) (F := lyF A i) (v := lyW A i) (c := lyC A i) (W := W') (k := k) (t := t') 6
    refine ⟨h1, ?_⟩
    rw [h2, ih2, Nat.add_assoc]
    rfl
theorem mcD_c {S : Nat → Str} {F0 : Fr} : ∀ d, d ≤ 8 → (mcD S false F0 d).1 = none ∧ (mcD S false F0 d).2.2.1 + wtL S (8 - d) (mcD S false F0 d).2.1 = cW S 8 F0
  | 0, _ => ⟨rfl, by
    show 1 + fb_sm (fun i => 1 * cX S 8 F0) 1 = _
    rw [cX_W, fb_sm_succ, Nat.one_mul]
    show 1 + (0 + _) = _
    rw [Nat.zero_add]⟩
  | d + 1, hd => by
    obtain ⟨ih1, ih2⟩ := mcD_c (S := S) (F0 := F0) d (by omega)
    rcases hz : mcD S false F0 d with ⟨r, L, W, M⟩
    rw [hz] at ih1 ih2
    cases ih1
    have ih2 : W + wtL S (8 - d) L = _ := ih2
    rw [mcD_s hz]
    obtain ⟨h1, h2⟩ := mcE_c (S := S) (A := L) (W := W) (k := 8 - (d + 1)) (lyN L)
    refine ⟨h1, ?_⟩
    show (mcE S false L W (lyN L)).2.2 + wtL S (8 - (d + 1)) (mcE S false L W (lyN L)).2.1 = _
    rw [h2, ← ih2, show 8 - (d + 1) + 1 = 8 - d by omega]
    rfl
theorem count_eq {S : Nat → Str} {F0 : Fr} : (mcD S false F0 8).2.2.1 = cW S 8 F0 := by
  obtain ⟨-, h⟩ := mcD_c (S := S) (F0 := F0) 8 (Nat.le_refl _)
  rw [← h]
  have : wtL S (8 - 8) (mcD S false F0 8).2.1 = 0 := by
    have e := fb_sm_const 0 (lyN (mcD S false F0 8).2.1)
    rw [Nat.mul_zero] at e
    rw [← e]
    exact fb_sm_cong fun i _ => Nat.mul_zero _
  rw [this, Nat.add_zero]
theorem F00_1 {x : Nat} (hx : x < 2) : F00 (decide (x = 0)) (decide (x = 1)) = F1 x := funext fun y => propext (by
  unfold F00 F1
  rw [decide_eq_true_eq, decide_eq_true_eq]
  rcases i2 hx with rfl | rfl <;> omega)
