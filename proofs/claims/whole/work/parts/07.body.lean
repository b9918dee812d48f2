/-! a contract out of the walk of the body -/
def earg : List Value → LE
  | [] => []
  | v :: t => if v.category = 2 then some v :: none :: earg t else some v :: earg t
def eent (n : Nat) (av : List Value) : LE := earg av ++ List.replicate (n - (earg av).length) none
theorem asl_rep : ∀ (n k : Nat), asl k (List.replicate n none) = []
  | 0, _ => rfl
  | n + 1, k => asl_rep n (k + 1)
theorem asl_app : ∀ (a b : LE) (k : Nat), asl k (a ++ b) = asl k a ++ asl (k + a.length) b
  | [], b, k => rfl
  | some v :: t, b, k => by
    show (k, v) :: asl (k + 1) (t ++ b) = _
    rw [asl_app t b (k + 1), List.length_cons, show k + 1 + t.length = k + (t.length + 1) by omega]
    rfl
  | none :: t, b, k => by
    show asl (k + 1) (t ++ b) = _
    rw [asl_app t b (k + 1), List.length_cons, show k + 1 + t.length = k + (t.length + 1) by omega]
    rfl
theorem asl_earg : ∀ (av : List Value) (k : Nat), asl k (earg av) = lv_args k av
  | [], _ => rfl
  | v :: t, k => by
    unfold earg lv_args
    split
    · show (k, v) :: asl (k + 1 + 1) (earg t) = _
      rw [asl_earg t]
    · show (k, v) :: asl (k + 1) (earg t) = _
      rw [asl_earg t]
theorem asl_eent (n : Nat) (av : List Value) : asl 0 (eent n av) = lv_args 0 av := by
  unfold eent
  rw [asl_app, asl_rep, List.append_nil, asl_earg]
def kini (kind : Nat) : Bool := kind == 2
def QcR (P : FPr) (Rr : Option Value → FH → Prop) : Array Value → State → Outcome → State → Prop := fun _ _ o t => ∃ (v : Option Value) (h' : FH), o = .returned v ∧ Rr v h' ∧ fwH P t h' t.heap
theorem call_of_J {k d mc ms own : Nat} {av : List Value} {h : FH} {Rr : Option Value → FH → Prop} {r : ME × MP} (hr : MTB[k]? = some r) (hp : plainName r.1.1.1.cls = true) (hown : cnm own = r.1.1.1.cls) (hlen : (lg_sl av).length ≤ r.1.1.2.2.1)
    (body : ∀ K : KT, JOK K → KRT K → K.2.2.1 = (own, kini r.1.2.1, r.1.1.2.1, r.1.1.2.2.2, r.1.1.2.2.1) → K.2.2.2 = Rr → (kG K).1 = d → J K 0 (eent r.1.1.2.2.1 av) [] h (mc, ms)) : Call k d av h mc ms Rr := by
  intro r' hr' l P
  cases hr.symm.trans hr'
  refine Met.ofW (cc := r.1.1.2.1) (maxL := r.1.1.2.2.1) (ret := r.1.1.2.2.2) hp rfl ?_
  intro p e s m args below meth c s₁ B hml hv
  obtain ⟨rfl, hH, hV⟩ := hv
  have hw : ∀ w ∈ wsM r, w.before av.toArray s = true := atoms_spec (ws := wsM r) B.pre
  have hlocks := B.notSynchronized
  generalize hK : (((p, l, e, (headSpec (wsM r) (rmD d mc ms)).room, s, m, av.toArray, below, meth, c), (MQ below (fun _ _ o t => ∃ (v : Option Value) (h' : FH), o = .returned v ∧ Rr v h' ∧ fwH P t h' t.heap) av.toArray s mc ms (fun q => P.2.1 ≤ q), P), (own, kini r.1.2.1, r.1.1.2.1, r.1.1.2.2.2, r.1.1.2.2.1), Rr) : KT) = K
  have hJ : JOK K := by
    subst hK
    refine ⟨B.exec, B.bytes, hml, ?_, fun w hw2 => hw w (List.mem_cons_of_mem _ hw2), hV, fun hi => ?_, Nat.le_refl _⟩
    · show s.vm.findClass (cnm own) = some m.cls
      rw [hown]
      exact findClass_of_methodNamed B.named
    · have h1 : meth.name = r.1.1.1.name := (name_of_methodNamed B.named B.method).1
      have h2 := ((mt_ok hr).2.2.2.2.2.1 (by simpa [kini] using hi)).1
      exact h1.trans h2
  have hT : KRT K := by
    subst hK
    refine ⟨fun pc env h2 b v hd hn hR H locs ls kc ks hH hL hl q1 q2 => ?_, fun pc env h2 b v hd hn hR H locs ls kc ks hH hL hl q1 q2 => ?_, fun pc env h2 b v hd hn hv hR H locs ls kc ks hH hL hl q1 q2 => ?_, fun pc env h2 b hd hn hR H locs ls kc ks hH hL hl q1 q2 => ?_⟩
    · have q1 : kc + b.1 ≤ mc := q1
      have q2 : ks + b.2 ≤ ms := q2
      refine W.widen (k := mc) (n := ms) (by omega) (by omega) ?_
      have key : ∃ ty, r.1.1.2.2.2 = some ty ∧ narrow ty (.int v) = .int v := by
        have hn : nrI r.1.1.2.2.2 v := hn
        unfold nrI at hn
        split at hn
        · exact ⟨_, by assumption, rfl⟩
        · refine ⟨_, by assumption, ?_⟩
          rcases hn with rfl | rfl <;> rfl
        · exact hn.elim
      obtain ⟨ty, e1, e2⟩ := key
      exact W.zret (ty := ty) (Qc := QcR P Rr) (free := fun q => P.2.1 ≤ q) B.exec B.bytes (B.returns.trans e1) e2 (fun t ht hW => ⟨_, h2, rfl, hR, by rw [ht]; exact hH.moved hW.alike⟩) hL hd hlocks
    · have q1 : kc + b.1 ≤ mc := q1
      have q2 : ks + b.2 ≤ ms := q2
      refine W.widen (k := mc) (n := ms) (by omega) (by omega) ?_
      exact W.lret (Qc := QcR P Rr) (free := fun q => P.2.1 ≤ q) B.exec B.bytes (B.returns.trans hn) (fun t ht hW => ⟨_, h2, rfl, hR, by rw [ht]; exact hH.moved hW.alike⟩) hL hd hlocks
    · have q1 : kc + b.1 ≤ mc := q1
      have q2 : ks + b.2 ≤ ms := q2
      refine W.widen (k := mc) (n := ms) (by omega) (by omega) ?_
      obtain ⟨n, hn⟩ := hn
      exact W.aret (Qc := QcR P Rr) (free := fun q => P.2.1 ≤ q) B.exec B.bytes (B.returns.trans hn) (Or.inl ⟨n, rfl⟩) hv (fun t ht hW => ⟨_, h2, rfl, hR, by rw [ht]; exact hH.moved hW.alike⟩) hL hd hlocks
    · have q1 : kc + b.1 ≤ mc := q1
      have q2 : ks + b.2 ≤ ms := q2
      refine W.widen (k := mc) (n := ms) (by omega) (by omega) ?_
      exact W.vret (Qc := QcR P Rr) (free := fun q => P.2.1 ≤ q) B.exec B.bytes (B.returns.trans hn) (fun t ht hW => ⟨_, h2, rfl, hR, by rw [ht]; exact hH.moved hW.alike⟩) hL hd hlocks
  have hfin := body K hJ hT (by subst hK; rfl) (by subst hK; rfl) (by subst hK; rfl)
  subst hK
  have hl := lv_entry av hlen
  rw [← asl_eent r.1.1.2.2.1 av] at hl
  rw [lg_entry_eq]
  exact hfin s.heap [] _ 0 0 hH (fun q hq => absurd hq List.not_mem_nil) hl (Nat.le_of_eq (Nat.zero_add _)) (Nat.le_of_eq (Nat.zero_add _))
