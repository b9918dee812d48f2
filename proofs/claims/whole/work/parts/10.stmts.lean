/-- the class of method k -/
def MCI : List Nat := [7, 4, 3, 0, 6, 2, 5, 1, 7, 7, 7, 4, 4, 7, 4, 4, 4, 7, 4, 7, 4, 7, 7, 4, 7, 4, 7, 4, 7, 7, 7, 7, 3, 3, 4, 3, 7, 7, 7, 3, 7, 3, 7, 3, 7, 3, 3, 7, 3, 7, 7, 3, 3, 3, 7, 3, 12, 7, 7, 3, 3, 7, 7, 3, 14, 3, 13, 7, 7, 3, 7, 7, 7, 7, 7, 0, 0, 0, 0, 14, 0, 0, 0, 0, 0, 0, 7, 7, 0, 7, 6, 6, 6, 6, 6, 6, 6, 6, 7, 6, 7, 6, 6, 7, 4, 4, 4, 4, 7, 2, 7, 2, 7, 2, 2, 7, 5, 5, 5, 5, 5, 5, 5, 5, 7, 7, 1, 7, 1, 1, 1, 1, 1, 1, 1, 1, 1, 1, 1, 1, 7, 4, 2, 7, 10, 9, 8, 10, 10, 10, 10, 9, 10, 10, 10, 10, 9, 9, 10, 9, 10, 10, 10, 9, 10, 10, 10, 10, 9, 10, 10, 9, 10, 10, 9, 9, 10, 10, 9, 10, 10, 10, 9, 10, 9, 9, 9, 10, 10, 10, 10, 10, 10, 10, 10, 10, 10, 10, 10, 10, 10, 10, 10, 10, 10, 10, 10, 10, 8, 8, 8, 10, 10, 10, 10, 10, 10, 10, 10, 10, 10, 10, 10, 10, 10, 10, 10, 10, 10, 10, 10, 10, 10, 10, 10, 10, 10]
def mci (k : Nat) : Nat := MCI.getD k 0
theorem mci_B : (List.range MTB.length).all (fun k => match MTB[k]? with | some r => decide (cnm (mci k) = r.1.1.1.cls) | none => true) = true := by decide +kernel
theorem mci_ok {k : Nat} {r : ME × MP} (h : MTB[k]? = some r) : cnm (mci k) = r.1.1.1.cls := by
  have hk : k < MTB.length := (List.getElem?_eq_some_iff.mp h).1
  have := List.all_eq_true.mp mci_B k (List.mem_range.mpr hk)
  rw [h] at this
  exact of_decide_eq_true this
def nwN (y : MethodName) (w : Jvm.Cond) : Bool := match w with | .methodLinkNest _ _ x _ => decide (x ≠ y) | _ => true
theorem nwN_B : MTB.all (fun r => decide (r.1.2.1 ≠ 1) || NWL.all (nwN r.1.1.1)) = true := by decide +kernel
theorem nwN_ok {k : Nat} {r : ME × MP} (h : MTB[k]? = some r) (hk : r.1.2.1 = 1) (own : String) (idx : Nat) : ∀ host, Cond.methodLinkNest own idx r.1.1.1 host ∉ NWL := fun host hm => by
  have := List.all_eq_true.mp nwN_B r (List.mem_of_getElem? h)
  simp only [Bool.or_eq_true, decide_eq_true_eq] at this
  rcases this with z | z
  · exact z hk
  · have := List.all_eq_true.mp z _ hm
    exact of_decide_eq_true this rfl
/-! arguments, calls, making -/
def OKAr (a : XA) : Prop :=
  (∀ (g : GE) (Q Q' : List Value → FH → Bd → Prop) (env : LE) (h : FH) (b : Bd), (∀ v h' b', Q v h' b' → Q' v h' b') → a.2.2 g Q env h b → a.2.2 g Q' env h b) ∧
  (∀ (K : KT), JOK K → ∀ (sd pc pc' : Nat), a.2.1 K.2.2.1 sd pc = some pc' → ∀ (Q : List Value → FH → Bd → Prop) (env : LE) (st : List Value) (h : FH) (b : Bd), sw st ≤ sd → a.2.2 (kG K) Q env h b → (∀ As h' b', As.length = a.1 → Q As h' b' → Jf K pc' env (As.reverse ++ st) h' b') → Jf K pc env st h b)
def a_nil : XA := (0, fun _ _ pc => some pc, fun _ Q _ h b => Q [] h b)
theorem OK_anil : OKAr a_nil := by
  refine ⟨fun g Q Q' env h b hm hq => hm _ _ _ hq, fun K X sd pc pc' hc Q env st h b hw hq k => ?_⟩
  cases hc
  exact k [] h b rfl hq
def a_cons {α : Type} (w : Nat) (va : α → Value) (e : E α) (r : XA) : XA := (r.1 + 1, fun S sd pc => match e.1 S sd pc with
    | some p1 => r.2.1 S (sd + w) p1
    | none => none, fun g Q env h b => e.2 g (fun v h b => r.2.2 g (fun As h b => Q (va v :: As) h b) env h b) env h b)
theorem OK_acons {α : Type} {w : Nat} {va : α → Value} {e : E α} {r : XA} (hw0 : ∀ x, (va x).category ≤ w) (he : OKE va e) (hr : OKAr r) : OKAr (a_cons w va e r) := by
  refine ⟨fun g Q Q' env h b hm hq => he.2.1 g _ _ env h b (fun v h' b' hv => hr.1 g _ _ env h' b' (fun As h' b' => hm _ _ _) hv) hq, fun K X sd pc pc' hc Q env st h b hw hq k => ?_⟩
  unfold a_cons at hc hq
  dsimp only at hc hq
  split at hc
  · rename_i p1 h1
    refine Jf.of (he.1 _ _ _ _ h1) (he.2.2 K X sd pc p1 h1 _ env st h b hw hq (fun v h' b' hv => ?_))
    refine hr.2 K X (sd + w) p1 pc' hc _ env (va v :: st) h' b' (by have := hw0 v; rw [sw_cons]; omega) hv (fun As h'' b'' hl hA => ?_)
    have := k (va v :: As) h'' b'' (by simp [a_cons, hl]) hA
    simpa using this
  · cases hc
abbrev aI1 (e : XI) (r : XA) : XA := a_cons 1 Value.int e r
abbrev aL1 (e : XL) (r : XA) : XA := a_cons 2 Value.long e r
abbrev aR1 (e : XR) (r : XA) : XA := a_cons 1 va_rf e r
theorem OK_aI {e : XI} {r : XA} (he : OKI e) (hr : OKAr r) : OKAr (aI1 e r) := OK_acons (fun _ => Nat.le_refl _) he hr
theorem OK_aL {e : XL} {r : XA} (he : OKL e) (hr : OKAr r) : OKAr (aL1 e r) := OK_acons (fun _ => Nat.le_refl _) he hr
theorem OK_aR {e : XR} {r : XA} (he : OKR e) (hr : OKAr r) : OKAr (aR1 e r) := OK_acons (fun x => by rw [rf_cat]; exact Nat.le_refl _) he hr
def CallQ (k : Nat) (g : GE) (av : List Value) (Q : Option Value → FH → Bd → Prop) (h : FH) (b : Bd) : Prop :=
  ∃ (d mc ms : Nat) (Rr : Option Value → FH → Prop), d < g.1 ∧ mc ≤ b.1 ∧ ms ≤ b.2 ∧ Call k d av h mc ms Rr ∧ ∀ v h', Rr v h' → Q v h' (b.1 - mc, b.2 - ms)
theorem CallQ_mono {k : Nat} {g : GE} {av : List Value} {Q Q' : Option Value → FH → Bd → Prop} {h : FH} {b : Bd} (hm : ∀ v h' b', Q v h' b' → Q' v h' b') (hq : CallQ k g av Q h b) : CallQ k g av Q' h b := by
  obtain ⟨d, mc, ms, Rr, h1, h2, h3, h4, h5⟩ := hq
  exact ⟨d, mc, ms, Rr, h1, h2, h3, h4, fun v h' hv => hm _ _ _ (h5 v h' hv)⟩
def mkd (k : Nat) : Option (Nat × Nat) := (MTB[k]?).map (fun r => r.1.2)
theorem mkd_ok {k n m : Nat} (h : mkd k = some (m, n)) : ∃ r, MTB[k]? = some r ∧ r.1.2.1 = m ∧ r.1.2.2 = n := by
  unfold mkd at h
  simp only [Option.map_eq_some_iff] at h
  obtain ⟨r, h1, h2⟩ := h
  exact ⟨r, h1, congrArg Prod.fst h2, congrArg Prod.snd h2⟩
/-- the call instruction behind receiver and arguments -/
def ckV (S : SC) (k n p : Nat) : Option Nat := match decode (cby S) p with | .ok (.invokevirtual idx, 3) => if lkM (cow S) idx = some k ∧ mkd k = some (1, n) then some (p + 3) else none | _ => none
def ckS (S : SC) (k n p : Nat) : Option Nat := match decode (cby S) p with | .ok (.invokestatic idx, 3) => if lkM (cow S) idx = some k ∧ mkd k = some (0, n) then some (p + 3) else none | _ => none
def ckI (S : SC) (k n p : Nat) : Option Nat := match decode (cby S) p with | .ok (.invokespecial idx, 3) => if lkM (cow S) idx = some k ∧ mkd k = some (2, n) then some (p + 3) else none | _ => none
theorem ckV_fl {S : SC} {k n p p' : Nat} (h : ckV S k n p = some p') : fl1 (cby S) p = p := by
  unfold ckV at h
  split at h
  · rename_i hd; exact fl1_of hd (by simp)
  · cases h
theorem ckS_fl {S : SC} {k n p p' : Nat} (h : ckS S k n p = some p') : fl1 (cby S) p = p := by
  unfold ckS at h
  split at h
  · rename_i hd; exact fl1_of hd (by simp)
  · cases h
theorem ckI_fl {S : SC} {k n p p' : Nat} (h : ckI S k n p = some p') : fl1 (cby S) p = p := by
  unfold ckI at h
  split at h
  · rename_i hd; exact fl1_of hd (by simp)
  · cases h
theorem J_V {K : KT} {k n p p' a : Nat} {As st fs : List Value} {env : LE} {h : FH} {b : Bd} {Q : Option Value → FH → Bd → Prop} (X : JOK K) (hc : ckV K.2.2.1 k n p = some p') (hn : As.length = n) (hw : sw st ≤ 8) (ha : h.2 a = some (.inr (mci k, fs))) (hq : CallQ k (kG K) (.ref a :: As) Q h b) (kk : ∀ v h' b', Q v h' b' → J K p' env (v.toList ++ st) h' b') : J K p env (As.reverse ++ .ref a :: st) h b := by
  unfold ckV at hc
  split at hc
  · rename_i idx hd
    split at hc
    · rename_i hl
      cases hc
      obtain ⟨r, hr, e1, e2⟩ := mkd_ok hl.2
      obtain ⟨d, mc, ms, Rr, h1, h2, h3, h4, h5⟩ := hq
      exact J_callV X hd hl.1 hr e1 (hn.trans e2.symm) (nwN_ok hr e1 _ _) h1 hw ha (mci_ok hr) h4 h2 h3 (fun v h' hv => kk v h' _ (h5 v h' hv))
    · cases hc
  · cases hc
theorem J_S {K : KT} {k n p p' : Nat} {As st : List Value} {env : LE} {h : FH} {b : Bd} {Q : Option Value → FH → Bd → Prop} (X : JOK K) (hc : ckS K.2.2.1 k n p = some p') (hn : As.length = n) (hw : sw st ≤ 8) (hq : CallQ k (kG K) As Q h b) (kk : ∀ v h' b', Q v h' b' → J K p' env (v.toList ++ st) h' b') : J K p env (As.reverse ++ st) h b := by
  unfold ckS at hc
  split at hc
  · rename_i idx hd
    split at hc
    · rename_i hl
      cases hc
      obtain ⟨r, hr, e1, e2⟩ := mkd_ok hl.2
      obtain ⟨d, mc, ms, Rr, h1, h2, h3, h4, h5⟩ := hq
      exact J_callS X hd hl.1 hr e1 (hn.trans e2.symm) h1 hw h4 h2 h3 (fun v h' hv => kk v h' _ (h5 v h' hv))
    · cases hc
  · cases hc
theorem J_I {K : KT} {k n p p' a : Nat} {As st : List Value} {env : LE} {h : FH} {b : Bd} {Q : Option Value → FH → Bd → Prop} (X : JOK K) (hc : ckI K.2.2.1 k n p = some p') (hn : As.length = n) (hw : sw st ≤ 8) (hq : CallQ k (kG K) (.ref a :: As) Q h b) (kk : ∀ v h' b', Q v h' b' → J K p' env (v.toList ++ st) h' b') : J K p env (As.reverse ++ .ref a :: st) h b := by
  unfold ckI at hc
  split at hc
  · rename_i idx hd
    split at hc
    · rename_i hl
      cases hc
      obtain ⟨r, hr, e1, e2⟩ := mkd_ok hl.2
      obtain ⟨d, mc, ms, Rr, h1, h2, h3, h4, h5⟩ := hq
      exact J_callI X hd hl.1 hr e1 (hn.trans e2.symm) h1 hw h4 h2 h3 (fun v h' hv => kk v h' _ (h5 v h' hv))
    · cases hc
  · cases hc
def e_cV {α : Type} (va : α → Value) (k : Nat) (r : XR) (a : XA) : E α := (fun S sd pc => if sd ≤ 8 then (match r.1 S sd pc with
    | some p1 => match a.2.1 S (sd + 1) p1 with
      | some p2 => ckV S k a.1 p2
      | none => none
    | none => none) else none, fun g Q env h b => r.2 g (fun r h b => ∃ q : Nat, r = some q ∧ a.2.2 g (fun As h b => (∃ fs, h.2 q = some (.inr (mci k, fs))) ∧ CallQ k g (.ref q :: As) (fun v h b => ∃ x, v = some (va x) ∧ Q x h b) h b) env h b) env h b)
theorem OK_cV {α : Type} {va : α → Value} {k : Nat} {r : XR} {a : XA} (hr : OKR r) (ha : OKAr a) : OKE va (e_cV va k r a) := by
  refine ⟨fun S sd pc pc' h => ?_, fun g Q Q' env h b hm hq => ?_, fun K X sd pc pc' hc Q env st h b hw hq kk => ?_⟩
  · unfold e_cV at h
    dsimp only at h
    split at h
    · split at h
      · rename_i p1 h1; exact hr.1 S sd pc p1 h1
      · cases h
    · cases h
  · refine hr.2.1 g _ _ env h b (fun v h' b' hv => ?_) hq
    obtain ⟨q, h1, h2⟩ := hv
    refine ⟨q, h1, ha.1 g _ _ env h' b' (fun As h'' b'' hA => ⟨hA.1, CallQ_mono (fun v h3 b3 hv => ?_) hA.2⟩) h2⟩
    obtain ⟨x, e1, e2⟩ := hv
    exact ⟨x, e1, hm _ _ _ e2⟩
  · unfold e_cV at hc hq
    dsimp only at hc hq
    split at hc
    · rename_i h8
      split at hc
      · rename_i p1 h1
        split at hc
        · rename_i p2 h2
          refine hr.2.2 K X sd pc p1 h1 _ env st h b hw hq (fun v h' b' hv => ?_)
          obtain ⟨q, rfl, hq2⟩ := hv
          refine ha.2 K X (sd + 1) p1 p2 h2 _ env (.ref q :: st) h' b' (by rw [sw_cons]; show 1 + _ ≤ _; omega) hq2 (fun As h'' b'' hl hA => ?_)
          obtain ⟨⟨fs, hf⟩, hC⟩ := hA
          refine Jf.of (ckV_fl hc) (J_V X hc hl (by omega) hf hC (fun v h3 b3 hv => ?_))
          obtain ⟨x, rfl, hx⟩ := hv
          exact (kk x h3 b3 hx).j X
        · cases hc
      · cases hc
    · cases hc
def e_cS {α : Type} (va : α → Value) (k : Nat) (a : XA) : E α := (fun S sd pc => if sd ≤ 8 ∧ fl1 (cby S) pc = pc then (match a.2.1 S sd pc with
      | some p2 => ckS S k a.1 p2
      | none => none) else none, fun g Q env h b => a.2.2 g (fun As h b => CallQ k g As (fun v h b => ∃ x, v = some (va x) ∧ Q x h b) h b) env h b)
theorem OK_cS {α : Type} {va : α → Value} {k : Nat} {a : XA} (ha : OKAr a) : OKE va (e_cS va k a) := by
  refine ⟨fun S sd pc pc' h => ?_, fun g Q Q' env h b hm hq => ?_, fun K X sd pc pc' hc Q env st h b hw hq kk => ?_⟩
  · unfold e_cS at h
    dsimp only at h
    split at h
    · rename_i h1; exact h1.2
    · cases h
  · refine ha.1 g _ _ env h b (fun As h'' b'' hA => CallQ_mono (fun v h3 b3 hv => ?_) hA) hq
    obtain ⟨x, e1, e2⟩ := hv
    exact ⟨x, e1, hm _ _ _ e2⟩
  · unfold e_cS at hc hq
    dsimp only at hc hq
    split at hc
    · rename_i h8
      split at hc
      · rename_i p2 h2
        refine Jf.j (ha.2 K X sd pc p2 h2 _ env st h b hw hq (fun As h'' b'' hl hA => ?_)) X
        refine Jf.of (ckS_fl hc) (J_S X hc hl (by omega) hA (fun v h3 b3 hv => ?_))
        obtain ⟨x, rfl, hx⟩ := hv
        exact (kk x h3 b3 hx).j X
      · cases hc
    · cases hc
def l_max (a b : XL) : XL := (fun S sd pc => if sd ≤ 8 then (match a.1 S sd pc with
    | some p1 => match b.1 S (sd + 2) p1 with
      | some p2 => (match decode (cby S) p2 with | .ok (.invokestatic idx, 3) => if lkM (cow S) idx = some mathMax then some (p2 + 3) else none | _ => none)
      | none => none
    | none => none) else none, fun g Q env h bd => 1 ≤ g.1 ∧ a.2 g (fun x h' b' => b.2 g (fun y h b => Q (if y < x then x else y) h b) env h' b') env h bd)
theorem OK_lmax {a b : XL} (ha : OKL a) (hb : OKL b) : OKL (l_max a b) := by
  refine ⟨fun S sd pc pc' h => ?_, fun g Q Q' env h bd hm hq => ⟨hq.1, ha.2.1 g _ _ env h bd (fun v h' b' hv => hb.2.1 g _ _ env h' b' (fun v h' b' => hm _ _ _) hv) hq.2⟩, fun K X sd pc pc' hc Q env st h bd hs hq k => ?_⟩
  · unfold l_max at h
    dsimp only at h
    split at h
    · split at h
      · rename_i p1 h1; exact ha.1 S sd pc p1 h1
      · cases h
    · cases h
  · unfold l_max at hc hq
    dsimp only at hc hq
    split at hc
    · rename_i h8
      split at hc
      · rename_i p1 h1
        split at hc
        · rename_i p2 h2
          split at hc
          · rename_i idx hd
            split at hc
            · rename_i hl
              cases hc
              refine ha.2.2 K X sd pc p1 h1 _ env st h bd hs hq.2 (fun x h' b' hx => Jf.of (hb.1 _ _ _ _ h2) ?_)
              refine hb.2.2 K X (sd + 2) p1 p2 h2 _ env (.long x :: st) h' b' (by rw [sw_cons]; show 2 + _ ≤ _; omega) hx (fun y h'' b'' hy => Jf.of (fl1_of hd (by simp)) ?_)
              exact J_lmax X hd hl hq.1 (by omega) ((k _ h'' b'' hy).j X)
            · cases hc
          · cases hc
        · cases hc
      · cases hc
    · cases hc
/-- new C(args) -/
def r_new (ci k : Nat) (a : XA) : XR := (fun S sd pc => if sd ≤ 7 then (match decode (cby S) pc with
    | .ok (.new idx, 3) => if lkK (cow S) idx = some ci ∧ isI S (pc + 3) .dup 1 = true then (match a.2.1 S (sd + 2) (pc + 4) with
      | some p2 => ckI S k a.1 p2
      | none => none) else none
    | _ => none) else none, fun g Q env h b => 1 ≤ b.1 ∧ (dfl ci).length ≤ b.2 ∧ a.2.2 g (fun As h' b' => CallQ k g (.ref h.1 :: As) (fun v h'' b'' => v = none ∧ Q (some h.1) h'' b'') h' b') env (hnew h (.inr (ci, dfl ci))) (b.1 - 1, b.2 - (dfl ci).length))
theorem OK_new {ci k : Nat} {a : XA} (ha : OKAr a) : OKR (r_new ci k a) := by
  refine ⟨fun S sd pc pc' h => ?_, fun g Q Q' env h b hm hq => ⟨hq.1, hq.2.1, ha.1 g _ _ env _ _ (fun As h' b' hA => CallQ_mono (fun v h3 b3 hv => ⟨hv.1, hm _ _ _ hv.2⟩) hA) hq.2.2⟩, fun K X sd pc pc' hc Q env st h b hw hq kk => ?_⟩
  · unfold r_new at h
    dsimp only at h
    split at h
    · split at h
      · rename_i hd; exact fl1_of hd (by simp)
      · cases h
    · cases h
  · unfold r_new at hc hq
    dsimp only at hc hq
    split at hc
    · rename_i h7
      split at hc
      · rename_i idx hd
        split at hc
        · rename_i hl
          split at hc
          · rename_i p2 h2
            obtain ⟨r, hr, -⟩ := lkK_ok hl.1
            have hlen : (dfl ci).length = r.2.2 := (cls_ok hr).2.2.2.2.2.1
            obtain ⟨q1, q2, q3⟩ := hq
            rw [hlen] at q2 q3
            refine J_newo X hd hl.1 hr q1 q2 ?_
            refine J_dup (v := .ref h.1) rfl X (isI_d hl.2) ?_
            refine Jf.j (ha.2 K X (sd + 2) (pc + 4) p2 h2 _ env (.ref h.1 :: .ref h.1 :: st) _ _ (by rw [sw_cons, sw_cons]; show 1 + (1 + _) ≤ _; omega) q3 (fun As h' b' hl hA => ?_)) X
            refine Jf.of (ckI_fl hc) (J_I X hc hl (by rw [sw_cons]; show 1 + _ ≤ _; omega) hA (fun v h3 b3 hv => ?_))
            obtain ⟨rfl, hv⟩ := hv
            exact (kk _ h3 b3 hv).j X
          · cases hc
        · cases hc
      · cases hc
    · cases hc
/-- new t[e], new C[e] -/
def r_newa (t : ArrayType) (e : XI) : XR := (fun S sd pc => match e.1 S sd pc with
    | some p1 => if isI S p1 (.newarray t) 2 = true ∧ (t = .int ∨ t = .boolean ∨ t = .long) then some (p1 + 2) else none
    | none => none, fun g Q env h b => e.2 g (fun z h b => ∃ n : Nat, z = nI n ∧ n ≤ 65000000 ∧ 1 ≤ b.1 ∧ n ≤ b.2 ∧ Q (some h.1) (hnew h (nwC t n)) (b.1 - 1, b.2 - n)) env h b)
theorem OK_newa {t : ArrayType} {e : XI} (he : OKI e) : OKR (r_newa t e) := by
  refine ⟨fun S sd pc pc' h => ?_, fun g Q Q' env h b hm hq => he.2.1 g _ _ env h b (fun v h' b' hv => ?_) hq, fun K X sd pc pc' hc Q env st h b hw hq kk => ?_⟩
  · unfold r_newa at h
    dsimp only at h
    split at h
    · rename_i p1 h1; exact he.1 S sd pc p1 h1
    · cases h
  · obtain ⟨n, h1, h2, h3, h4, h5⟩ := hv
    exact ⟨n, h1, h2, h3, h4, hm _ _ _ h5⟩
  · unfold r_newa at hc hq
    dsimp only at hc hq
    split at hc
    · rename_i p1 h1
      split at hc
      · rename_i hd
        cases hc
        refine he.2.2 K X sd pc p1 h1 _ env st h b hw hq (fun v h' b' hv => Jf.of (fl1_of (isI_d hd.1) (by simp)) ?_)
        obtain ⟨n, rfl, h2, h3, h4, h5⟩ := hv
        exact J_newa X (isI_d hd.1) hd.2 h2 h3 h4 ((kk (some h'.1) _ _ h5).j X)
      · cases hc
    · cases hc
def r_anew (ci : Nat) (e : XI) : XR := (fun S sd pc => match e.1 S sd pc with
    | some p1 => (match decode (cby S) p1 with | .ok (.anewarray idx, 3) => if lkK (cow S) idx = some ci ∧ aoOK ci = true then some (p1 + 3) else none | _ => none)
    | none => none, fun g Q env h b => e.2 g (fun z h b => ∃ n : Nat, z = nI n ∧ n ≤ 65000000 ∧ 1 ≤ b.1 ∧ n ≤ b.2 ∧ Q (some h.1) (hnew h (aR (.object (cnm ci)) n (fun _ => none))) (b.1 - 1, b.2 - n)) env h b)
theorem OK_anew {ci : Nat} {e : XI} (he : OKI e) : OKR (r_anew ci e) := by
  refine ⟨fun S sd pc pc' h => ?_, fun g Q Q' env h b hm hq => he.2.1 g _ _ env h b (fun v h' b' hv => ?_) hq, fun K X sd pc pc' hc Q env st h b hw hq kk => ?_⟩
  · unfold r_anew at h
    dsimp only at h
    split at h
    · rename_i p1 h1; exact he.1 S sd pc p1 h1
    · cases h
  · obtain ⟨n, h1, h2, h3, h4, h5⟩ := hv
    exact ⟨n, h1, h2, h3, h4, hm _ _ _ h5⟩
  · unfold r_anew at hc hq
    dsimp only at hc hq
    split at hc
    · rename_i p1 h1
      split at hc
      · rename_i idx hd
        split at hc
        · rename_i hl
          cases hc
          obtain ⟨r, hr, -⟩ := lkK_ok hl.1
          have e1 : r.1 = cnm ci := (cls_ok hr).1
          refine he.2.2 K X sd pc p1 h1 _ env st h b hw hq (fun v h' b' hv => Jf.of (fl1_of hd (by simp)) ?_)
          obtain ⟨n, rfl, h2, h3, h4, h5⟩ := hv
          rw [← e1] at h5
          exact J_anew X hd hl.1 hr hl.2 h2 h3 h4 ((kk (some h'.1) _ _ h5).j X)
        · cases hc
      · cases hc
    · cases hc
/-- {.., e, ..}: the element i of a new array -/
def r_iniI (r : XR) (i : Nat) (e : XI) : XR := (fun S sd pc => match r.1 S sd pc with
    | some p1 => if isI S p1 .dup 1 = true ∧ isI S (p1 + 1) (.iconst i) 1 = true ∧ i ≤ 5 then (match e.1 S (sd + 3) (p1 + 2) with
      | some p2 => if isI S p2 .iastore 1 = true then some (p2 + 1) else none
      | none => none) else none
    | none => none, fun g Q env h b => r.2 g (fun r h b => ∃ a : Nat, r = some a ∧ e.2 g (fun x h b => ∃ (n : Nat) (f : Nat → Int32), h.2 a = some (aI n f) ∧ i < n ∧ Q (some a) (hset h a (aI n (upd f i x))) b) env h b) env h b)
theorem OK_iniI {r : XR} {i : Nat} {e : XI} (hr : OKR r) (he : OKI e) : OKR (r_iniI r i e) := by
  refine ⟨fun S sd pc pc' h => ?_, fun g Q Q' env h b hm hq => hr.2.1 g _ _ env h b (fun v h' b' hv => ?_) hq, fun K X sd pc pc' hc Q env st h b hw hq kk => ?_⟩
  · unfold r_iniI at h
    dsimp only at h
    split at h
    · rename_i p1 h1; exact hr.1 S sd pc p1 h1
    · cases h
  · obtain ⟨a, h1, h2⟩ := hv
    refine ⟨a, h1, he.2.1 g _ _ env h' b' (fun x h3 b3 hx => ?_) h2⟩
    obtain ⟨n, f, e1, e2, e3⟩ := hx
    exact ⟨n, f, e1, e2, hm _ _ _ e3⟩
  · unfold r_iniI at hc hq
    dsimp only at hc hq
    split at hc
    · rename_i p1 h1
      split at hc
      · rename_i hd
        obtain ⟨d1, d2, d3⟩ := hd
        split at hc
        · rename_i p2 h2
          split at hc
          · rename_i d4
            cases hc
            refine hr.2.2 K X sd pc p1 h1 _ env st h b hw hq (fun v h' b' hv => Jf.of (fl1_of (isI_d d1) (by simp)) ?_)
            obtain ⟨a, rfl, h3⟩ := hv
            refine J_dup (v := .ref a) rfl X (isI_d d1) (J_iconst (v := nI i) rfl X (isI_d d2) ?_)
            refine he.2.2 K X (sd + 3) (p1 + 2) p2 h2 _ env (.int (nI i) :: .ref a :: .ref a :: st) h' b' (by rw [sw_cons, sw_cons, sw_cons]; show 1 + (1 + (1 + _)) ≤ _; omega) h3 (fun x h4 b4 hx => Jf.of (fl1_of (isI_d d4) (by simp)) ?_)
            obtain ⟨n, f, e1, e2, e3⟩ := hx
            exact J_iast X (isI_d d4) e1 e2 (by omega) ((kk (some a) _ _ e3).j X)
          · cases hc
        · cases hc
      · cases hc
    · cases hc
def r_iniR (r : XR) (i ci : Nat) (e : XR) : XR := (fun S sd pc => match r.1 S sd pc with
    | some p1 => if isI S p1 .dup 1 = true ∧ isI S (p1 + 1) (.iconst i) 1 = true ∧ i ≤ 5 ∧ ci < 11 then (match e.1 S (sd + 3) (p1 + 2) with
      | some p2 => if isI S p2 .aastore 1 = true then some (p2 + 1) else none
      | none => none) else none
    | none => none, fun g Q env h b => r.2 g (fun r h b => ∃ a : Nat, r = some a ∧ e.2 g (fun x h b => ∃ (v n : Nat) (fs : List Value) (f : Nat → Option Nat), x = some v ∧ h.2 v = some (.inr (ci, fs)) ∧ h.2 a = some (aR (.object (cnm ci)) n f) ∧ i < n ∧ Q (some a) (hset h a (aR (.object (cnm ci)) n (va_up f i (some v)))) b) env h b) env h b)
theorem cl_some {ci : Nat} (h : ci < 11) : ∃ r, vwCl[ci]? = some r := by
  have : ci < vwCl.length := h
  exact ⟨_, List.getElem?_eq_getElem this⟩
theorem OK_iniR {r : XR} {i ci : Nat} {e : XR} (hr : OKR r) (he : OKR e) : OKR (r_iniR r i ci e) := by
  refine ⟨fun S sd pc pc' h => ?_, fun g Q Q' env h b hm hq => hr.2.1 g _ _ env h b (fun v h' b' hv => ?_) hq, fun K X sd pc pc' hc Q env st h b hw hq kk => ?_⟩
  · unfold r_iniR at h
    dsimp only at h
    split at h
    · rename_i p1 h1; exact hr.1 S sd pc p1 h1
    · cases h
  · obtain ⟨a, h1, h2⟩ := hv
    refine ⟨a, h1, he.2.1 g _ _ env h' b' (fun x h3 b3 hx => ?_) h2⟩
    obtain ⟨v, n, fs, f, e1, e2, e3, e4, e5⟩ := hx
    exact ⟨v, n, fs, f, e1, e2, e3, e4, hm _ _ _ e5⟩
  · unfold r_iniR at hc hq
    dsimp only at hc hq
    split at hc
    · rename_i p1 h1
      split at hc
      · rename_i hd
        obtain ⟨d1, d2, d3, d5⟩ := hd
        split at hc
        · rename_i p2 h2
          split at hc
          · rename_i d4
            cases hc
            refine hr.2.2 K X sd pc p1 h1 _ env st h b hw hq (fun v h' b' hv => Jf.of (fl1_of (isI_d d1) (by simp)) ?_)
            obtain ⟨a, rfl, h3⟩ := hv
            refine J_dup (v := .ref a) rfl X (isI_d d1) (J_iconst (v := nI i) rfl X (isI_d d2) ?_)
            refine he.2.2 K X (sd + 3) (p1 + 2) p2 h2 _ env (.int (nI i) :: .ref a :: .ref a :: st) h' b' (by rw [sw_cons, sw_cons, sw_cons]; show 1 + (1 + (1 + _)) ≤ _; omega) h3 (fun x h4 b4 hx => Jf.of (fl1_of (isI_d d4) (by simp)) ?_)
            obtain ⟨v, n, fs, f, rfl, e2, e3, e4, e5⟩ := hx
            obtain ⟨rc, hrc⟩ := cl_some d5
            have en : rc.1 = cnm ci := (cls_ok hrc).1
            rw [← en] at e3 e5
            exact J_aast X (isI_d d4) hrc e3 e2 e4 (by omega) ((kk (some a) _ _ e5).j X)
          · cases hc
        · cases hc
      · cases hc
    · cases hc
