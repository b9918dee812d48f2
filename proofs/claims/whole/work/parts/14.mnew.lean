/-! new int[N][K] -/
def hmn (h : FH) (N K : Nat) : FH := (h.1 + 1 + N, fun q => if q = h.1 then some (aR (.array .int) N (fun i => if i < N then some (h.1 + 1 + i) else none)) else if h.1 < q ∧ q < h.1 + 1 + N then some (aI K (fun _ => 0)) else h.2 q)
theorem mn_outer (c : ClassId) (N h0 : Nat) : ∀ i : Nat, Jvm.Free.Multi.outerC c N h0 i = arrV c N (fun j => va_rf (if j < i then some (h0 + 1 + j) else none))
  | 0 => by
    show ({ cls := c, slots := Array.replicate N .null, vm := .none } : Cell) = _
    rw [arrV_new]
    refine congrArg (arrV c N) (funext fun j => ?_)
    simp [va_rf]
  | i + 1 => by
    show (Jvm.Free.Multi.outerC c N h0 i).setSlot i (.ref (h0 + 1 + i)) = _
    rw [mn_outer c N h0 i, arrV_store]
    refine congrArg (arrV c N) (funext fun j => ?_)
    by_cases e : j = i
    · subst e
      simp [updV, va_rf]
    · by_cases h : j < i
      · simp [updV, e, h, Nat.lt_succ_of_lt h]
      · simp [updV, e, h, show ¬ j < i + 1 by omega]
theorem mn_link : Cond.classLink (cnm 6) mnIdx.2.1 ("[" ++ (FieldType.array .int).toString) ∈ ALL := ALL_of (tch_in (j := mnIdx.2.2.1) (i := mnIdx.2.2.2) (by decide +kernel)) rfl
theorem mn_own : mnIdx.1 = 6 := rfl
theorem J_mnew {K : KT} {pc : Nat} {env : LE} {st : List Value} {h : FH} {b : Bd} {N M idx : Nat} (X : JOK K) (hd : decode (cby K.2.2.1) pc = .ok (.multianewarray idx 2, 4)) (ho : cow K.2.2.1 = 6) (hi : idx = mnIdx.2.1) (hN : N ≤ 1000000) (hM : M ≤ 1000000) (hc : 1 + N ≤ b.1) (hs : N + N * M ≤ b.2) (k : J K (pc + 4) env (.ref h.1 :: st) (hmn h N M) (b.1 - (1 + N), b.2 - (N + N * M))) : J K pc env (.int (nI M) :: .int (nI N) :: st) h b := by
  obtain ⟨⟨p, l, e, R, s, m, args, below, meth, c⟩, ⟨Q, P⟩, ⟨own, ini, cc, ret, nL⟩, Rr⟩ := K
  intro H locs ls kc ks hH hL hl h1 h2
  have h1 : kc + b.1 ≤ R.cells := h1
  have h2 : ks + b.2 ≤ R.slots := h2
  have ho : own = 6 := ho
  subst ho
  subst hi
  have cN : (nI N).toNatClampNeg = N := nI_clamp (by omega)
  have cM : (nI M).toNatClampNeg = M := nI_clamp (by omega)
  intro T hT Xs
  obtain ⟨vm₁, cA, comp, -, fA, fC, hO, hI, X', step⟩ := Jvm.Stand.multianewarray2F (ty := .int) Xs X.1 X.2.2.2.1 (X.2.2.2.2.1 _ mn_link) X.2.2.2.2.2.1.2.2.2 (X.2.2.2.2.1 _ A_ci) (g := F0 m pc ls (.int (nI M) :: .int (nI N) :: st)) rfl (by rw [X.2.1]; exact hd) rfl (nI_pos (by omega)) (nI_pos (by omega)) (by rw [cN]; omega) (by rw [cM]; show M * 4 ≤ _; omega) (by rw [cM]; omega) rfl rfl (by rw [cN]; show _ ≤ R.cells; omega) (by rw [cN, cM]; show _ ≤ R.slots; omega)
  rw [cN, cM] at X' step
  generalize hF : Jvm.Free.Multi.fill (T.setVm vm₁) cA comp N M (defaultValue .int) N = F at X' step
  have hTh : (T.setVm vm₁).heap = H := hT
  obtain ⟨f1, f2, -, -⟩ := Jvm.Free.Multi.fill_facts (T.setVm vm₁) cA comp N M (defaultValue .int) N
  rw [hF, hTh] at f1 f2
  have hold : ∀ x : Nat, x < H.size → F.heap[x]? = H[x]? := fun x hx => by
    have := Jvm.Free.Multi.fill_old (T.setVm vm₁) cA comp N M (defaultValue .int) (a := x) (by rw [hTh]; exact hx) N
    rw [hF, hTh] at this
    exact this
  have hrow : ∀ j : Nat, j < N → F.heap[H.size + 1 + j]? = some (vp_cell comp (M, .inl (fun _ => 0))) := fun j hj => by
    have := Jvm.Free.Multi.fill_inner (T.setVm vm₁) cA comp N M (defaultValue .int) N j hj
    rw [hF, hTh] at this
    rw [this]
    exact congrArg some (arrV_new comp M (.int 0))
  rw [mn_outer] at f2
  have hAo : ArrOfT s cA (.array .int) := fun N9 z9 => by
    obtain ⟨-, k9, hk9, cm9, hkk9⟩ := (hO 0 0 0).1
    exact ⟨(fun q hq => by cases hq), k9, hk9, cm9, hkk9⟩
  have hAi : ArrOfT s comp .int := fun N9 z9 => by
    obtain ⟨-, k9, hk9, cm9, hkk9⟩ := (hI 0 (.int 0)).1
    exact ⟨(fun q hq => by cases hq), k9, hk9, cm9, hkk9⟩
  have hz : H.size = h.1 := hH.1
  have hlt : ∀ {a : Nat} {c : FC}, h.2 a = some c → a < h.1 := fun hc => hH.lt hc
  have hw : fwH P s (hmn h N M) F.heap := by
    obtain ⟨g1, g2, g3, ⟨g4, g5⟩, g6, g7⟩ := hH
    have g2 : P.2.1 ≤ h.1 := g2
    have g4 : P.2.2.1 < P.2.1 := g4
    have old : ∀ q : Nat, q < H.size → ¬ P.2.1 ≤ q → F.heap[q]? = H[q]? := fun q hq _ => hold q hq
    refine ⟨by rw [f1, hz]; rfl, by show P.2.1 ≤ h.1 + 1 + N; omega, fun q c' hq => ?_, ⟨g4, g5.kept (hold _ (by omega))⟩, g6.kept old, g7.kept old⟩
    by_cases e : q = h.1
    · subst e
      have : some (aR (.array .int) N (fun i => if i < N then some (h.1 + 1 + i) else none)) = some c' := by simpa [hmn] using hq
      cases this
      refine ⟨g2, cA, ?_, hAo, fA⟩
      rw [← hz]
      exact f2
    · by_cases e2 : h.1 < q ∧ q < h.1 + 1 + N
      · have : some (aI M (fun _ => 0)) = some c' := by simpa [hmn, e, e2] using hq
        cases this
        refine ⟨show P.2.1 ≤ q by omega, comp, ?_, hAi, fC⟩
        have := hrow (q - (h.1 + 1)) (by omega)
        rw [hz, show h.1 + 1 + (q - (h.1 + 1)) = q by omega] at this
        exact this
      · have : h.2 q = some c' := by simpa [hmn, e, e2] using hq
        have hq2 := hlt this
        exact ⟨(g3 q c' this).1, (g3 q c' this).2.kept (hold q (by omega))⟩
  obtain ⟨t, a1, b1⟩ := k F.heap locs ls (kc + 1 + N) (ks + N + N * M) hw hL hl (show kc + 1 + N + (b.1 - (1 + N)) ≤ R.cells by omega) (show ks + N + N * M + (b.2 - (N + N * M)) ≤ R.slots by omega) F rfl X'
  refine ⟨t, step t ?_, b1⟩
  have e : T.heap.size = h.1 := by rw [hT]; exact hz
  rw [e]
  exact a1
def r_mnew (a b : XI) : XR := (fun S sd pc => match a.1 S sd pc with
    | some p1 => match b.1 S (sd + 1) p1 with
      | some p2 => if cow S = 6 ∧ isI S p2 (.multianewarray mnIdx.2.1 2) 4 = true then some (p2 + 4) else none
      | none => none
    | none => none, fun g Q env h bd => a.2 g (fun x h' b' => b.2 g (fun y h b => ∃ N M : Nat, x = nI N ∧ y = nI M ∧ N ≤ 1000000 ∧ M ≤ 1000000 ∧ 1 + N ≤ b.1 ∧ N + N * M ≤ b.2 ∧ Q (some h.1) (hmn h N M) (b.1 - (1 + N), b.2 - (N + N * M))) env h' b') env h bd)
theorem OK_mnew {a b : XI} (ha : OKI a) (hb : OKI b) : OKR (r_mnew a b) := by
  refine ⟨fun S sd pc pc' h => ?_, fun g Q Q' env h bd hm hq => ha.2.1 g _ _ env h bd (fun v h' b' hv => hb.2.1 g _ _ env h' b' (fun v h' b' hx => ?_) hv) hq, fun K X sd pc pc' hc Q env st h bd hs hq k => ?_⟩
  · unfold r_mnew at h
    dsimp only at h
    split at h
    · rename_i p1 h1; exact ha.1 S sd pc p1 h1
    · cases h
  · obtain ⟨N, M, e1, e2, e3, e4, e5, e6, e7⟩ := hx
    exact ⟨N, M, e1, e2, e3, e4, e5, e6, hm _ _ _ e7⟩
  · unfold r_mnew at hc hq
    dsimp only at hc hq
    split at hc
    · rename_i p1 h1
      split at hc
      · rename_i p2 h2
        split at hc
        · rename_i hi
          cases hc
          refine ha.2.2 K X sd pc p1 h1 _ env st h bd hs hq (fun x h' b' hx => Jf.of (hb.1 _ _ _ _ h2) ?_)
          refine hb.2.2 K X (sd + 1) p1 p2 h2 _ env (.int x :: st) h' b' (by rw [sw_cons]; show 1 + _ ≤ _; omega) hx (fun y h'' b'' hy => Jf.of (fl1_of (isI_d hi.2) (by simp)) ?_)
          obtain ⟨N, M, rfl, rfl, e3, e4, e5, e6, e7⟩ := hy
          exact J_mnew X (isI_d hi.2) hi.1 rfl e3 e4 e5 e6 ((k (some h''.1) _ _ e7).j X)
        · cases hc
      · cases hc
    · cases hc
