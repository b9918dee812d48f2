/-! the claim, out of what the law's statement does -/
def lawEnd : Option Value → FH → Prop := fun v _ => v = some (.int 1)
theorem law_run {p : Program} {e : Env} {s : State} {m : MethodId} {below : List Frame} {meth : Method} {c : Code} (l : Launch) (b L : Nat) (xs : Nat → Int32) (t : Nat) (D : va_G) (hx : p.tables.exec = Jvm.exec) (hb : c.code = code) (hr : meth.sig.returnType = ret) (hml : c.maxLocals = 4) (hown : s.vm.findClass (cnm 11) = some m.cls) (hts : ∀ w ∈ ALL, w.before #[Value.ref b] s = true) (hlocks : meth.locks = false)
    (hH : fwH (D, s.heap.size, b, L, xs, t) s (s.heap.size, fun _ => none) s.heap) (hV : fwV (D, s.heap.size, b, L, xs, t) s)
    (hsem : ∀ g : GE, g.1 = 2048 → g.2.1 = b → g.2.2.1 = L → g.2.2.2.1 = xs → M_law.2 g (fun _ _ _ => False) lawEnd (eent 4 [.ref b]) (s.heap.size, fun _ => none) (600000, 7302250)) :
    W p l e room_1 s m #[Value.ref b] below meth c s.heap [] 0 0 (lw_Z below #[Value.ref b] s) (entryFrame m ([Value.ref b] : List Value).toArray 4) := by
  generalize hK : (((p, l, e, room_1, s, m, #[Value.ref b], below, meth, c), (lw_Z below #[Value.ref b] s, ((D, s.heap.size, b, L, xs, t) : FPr)), (11, false, code, some .boolean, 4), lawEnd) : KT) = K
  have hJ : JOK K := by
    subst hK
    exact ⟨hx, hb, hml, hown, hts, hV, fun h => absurd h Bool.false_ne_true, show 40 * 2048 ≤ 84000 from Nat.le_of_ble_eq_true rfl⟩
  have hT : KRT K := by
    subst hK
    refine ⟨fun pc env h2 bd v hd hn hR H locs ls kc ks hH hL hl q1 q2 => ?_, fun pc env h2 bd v hd hn hR => ?_, fun pc env h2 bd v hd hn => ?_, fun pc env h2 bd hd hn => ?_⟩
    · have hR : (some (.int v) : Option Value) = some (.int 1) := hR
      cases hR
      have q1 : kc + bd.1 ≤ 600000 := q1
      have q2 : ks + bd.2 ≤ 7302250 := q2
      refine va_forget hL ?_
      refine W.widen (k := 600000) (n := 7302250) (by omega) (by omega) ?_
      exact lw_ret hx hb hr hlocks hd
    · cases hn
    · obtain ⟨n, hn⟩ := hn; cases hn
    · cases hn
  have hg := hsem (kG K) (by subst hK; rfl) (by subst hK; rfl) (by subst hK; rfl) (by subst hK; rfl)
  have hchk : M_law.1 K.2.2.1 0 = some (lawPc, false, []) := by
    have eS : K.2.2.1 = SL := by subst hK; rfl
    rw [eS]
    exact K_law
  have hg2 : M_law.2 (kG K) (fun _ _ _ => False) K.2.2.2 (eent 4 [.ref b]) (s.heap.size, fun _ => none) (600000, 7302250) := by subst hK; exact hg
  have key := O_law.2.2 K hJ hT 0 lawPc false [] hchk (fun _ _ _ => False) (eent 4 [.ref b]) (s.heap.size, fun _ => none) (600000, 7302250) hg2 (fun e h' b' (hq : False) => hq.elim)
  subst hK
  have hl := lv_entry [Value.ref b] (n := 4) (Nat.le_of_ble_eq_true rfl)
  rw [← asl_eent 4 [Value.ref b]] at hl
  rw [lg_entry_eq]
  exact key s.heap [] _ 0 0 hH (fun q hq => absurd hq List.not_mem_nil) hl (Nat.le_refl _) (Nat.le_refl _)
theorem inst_ok {ci : Nat} {r : vw_C} (h : vwCl[ci]? = some r) : Cond.instantiable r.1 r.2.2 ∈ lw_tbl := by
  match ci, h with
  | 0, h => cases h; exact tch_in (j := 1) (i := 123) (by decide +kernel)
  | 1, h => cases h; exact tch_in (j := 2) (i := 58) (by decide +kernel)
  | 2, h => cases h; exact tch_in (j := 1) (i := 232) (by decide +kernel)
  | 3, h => cases h; exact tch_in (j := 1) (i := 25) (by decide +kernel)
  | 4, h => cases h; exact tch_in (j := 1) (i := 27) (by decide +kernel)
  | 5, h => cases h; exact tch_in (j := 2) (i := 23) (by decide +kernel)
  | 6, h => cases h; exact tch_in (j := 1) (i := 171) (by decide +kernel)
  | 7, h => cases h; exact tch_in (j := 1) (i := 17) (by decide +kernel)
  | 8, h => cases h; exact tch_in (j := 5) (i := 16) (by decide +kernel)
  | 9, h => cases h; exact tch_in (j := 4) (i := 222) (by decide +kernel)
  | 10, h => cases h; exact tch_in (j := 4) (i := 215) (by decide +kernel)
  | k + 11, h => simp [vwCl] at h
theorem NWL_tbl : ∀ w ∈ NWL, w ∈ lw_tbl := fun w hw => tb_in ((by decide +kernel : ∀ w ∈ NWL, w ∈ tables_1) w hw)
theorem ao_3 : Cond.arrayOver (.object RX3) ∈ lw_tbl := tch_in (j := 1) (i := 129) (by decide +kernel)
theorem ao_8 : Cond.arrayOver (.object RX8) ∈ lw_tbl := tch_in (j := 5) (i := 15) (by decide +kernel)
theorem ao_9 : Cond.arrayOver (.object RX9) ∈ lw_tbl := tch_in (j := 4) (i := 221) (by decide +kernel)
theorem ao_A : Cond.arrayOver (.array .int) ∈ lw_tbl := tch_in (j := 1) (i := 178) (by decide +kernel)
theorem ls_W : Cond.laysStatic "EventStructures$Bisimulation" "WEIGHTS" "[I" ∈ lw_tbl := tch_in (j := 3) (i := 178) (by decide +kernel)
theorem in_B : Cond.initialized "EventStructures$Bisimulation" ∈ lw_tbl := tch_in (j := 1) (i := 4) (by decide +kernel)
theorem start_D {s : State} {b : Nat} (hts : ∀ w ∈ lw_tbl, w.before #[Value.ref b] s = true) : ∃ D : va_G, va_K D vwCl [] s := by
  have hk : ∀ k : Nat, ∃ q : ClassId × (Nat → Nat), ∀ r, vwCl[k]? = some r → u_Kn s r.1 r.2.1 r.2.2 q.1 q.2 := by
    intro k
    cases hr : vwCl[k]? with
    | none => exact ⟨(0, fun _ => 0), fun r h => by cases h⟩
    | some r =>
      obtain ⟨cC, iS, h⟩ := u_known (C := r.1) (T := r.2.1) (N := r.2.2) (n := r.2.2) hts (fun w hw => ALL_in ((cls_ok hr).2.1 w hw)) (hts _ (inst_ok hr))
      exact ⟨(cC, iS), fun r' h' => by cases h'; exact h⟩
  exact ⟨(fun k => (Classical.choose (hk k)).1, fun k => (Classical.choose (hk k)).2), fun c q hq => Classical.choose_spec (hk c) q hq, fun k q h => by simp at h⟩
theorem start_W {s : State} {b : Nat} (hts : ∀ w ∈ lw_tbl, w.before #[Value.ref b] s = true) (hgv : (Jvm.Cond.and given_1 narrow_1).before #[Value.ref b] s = true) : ∃ t : Nat, va_Z "EventStructures$Bisimulation" "WEIGHTS" "[I" (.ref t) (fun q => s.heap.size ≤ q) s s.heap ∧ va_T .int t 6 (fun j => .int (wtab j)) (fun q => s.heap.size ≤ q) s s.heap := by
  have hs := flat_of_before _ hgv
  have harr : (Cond.arrayOf (.static "EventStructures$Bisimulation" "WEIGHTS" "[I") .int).before #[Value.ref b] s = true := hs _ (by decide +kernel)
  have hlen : (Cond.eq (.length (.static "EventStructures$Bisimulation" "WEIGHTS" "[I")) (.int 6)).before #[Value.ref b] s = true := hs _ (by decide +kernel)
  have e0 : (Cond.eq (.elem (.static "EventStructures$Bisimulation" "WEIGHTS" "[I") (.int 0)) (.int 1)).before #[Value.ref b] s = true := hs _ (by decide +kernel)
  have e1 : (Cond.eq (.elem (.static "EventStructures$Bisimulation" "WEIGHTS" "[I") (.int 1)) (.int 9)).before #[Value.ref b] s = true := hs _ (by decide +kernel)
  have e2 : (Cond.eq (.elem (.static "EventStructures$Bisimulation" "WEIGHTS" "[I") (.int 2)) (.int 81)).before #[Value.ref b] s = true := hs _ (by decide +kernel)
  have e3 : (Cond.eq (.elem (.static "EventStructures$Bisimulation" "WEIGHTS" "[I") (.int 3)) (.int 729)).before #[Value.ref b] s = true := hs _ (by decide +kernel)
  have e4 : (Cond.eq (.elem (.static "EventStructures$Bisimulation" "WEIGHTS" "[I") (.int 4)) (.int 6561)).before #[Value.ref b] s = true := hs _ (by decide +kernel)
  have e5 : (Cond.eq (.elem (.static "EventStructures$Bisimulation" "WEIGHTS" "[I") (.int 5)) (.int 59049)).before #[Value.ref b] s = true := hs _ (by decide +kernel)
  have hA : ∀ a : Nat, a < s.heap.size → ¬ s.heap.size ≤ a := fun a h => Nat.not_le.mpr h
  obtain ⟨t, ht, hT⟩ := va_Tof (A := fun q => s.heap.size ≤ q) (N := 6) (f := fun j => .int (wtab j)) (by decide) harr (va_eqt hlen) (fun j hj => by
    match j, hj with
    | 0, _ => exact va_eqt e0
    | 1, _ => exact va_eqt e1
    | 2, _ => exact va_eqt e2
    | 3, _ => exact va_eqt e3
    | 4, _ => exact va_eqt e4
    | 5, _ => exact va_eqt e5
    | k + 6, h => exact absurd h (by omega)) hA
  exact ⟨t, va_Zof (hts _ ls_W) (hts _ in_B) ht hA, hT⟩
/-- all that is left to prove: what the law's statement does, over the empty flat heap -/
def LawSem : Prop := ∀ (g : GE) (n0 : Nat), g.1 = 2048 → g.2.2.1 ≤ 3072 → M_law.2 g (fun _ _ _ => False) lawEnd (eent 4 [.ref g.2.1]) (n0, fun _ => none) (600000, 7302250)
theorem whole_start_of (HS : LawSem) {p : Program} {e : Env} {s : State} {m : MethodId} {below : List Frame} {meth : Method} {c : Code} (l : Launch) (hflags : l.flags = flags0) {b L : Nat} {xs : Nat → Int32} (hL : L ≤ 3072) (C0 : lw_At p s m meth c b L xs) : W p l e room_1 s m #[Value.ref b] below meth c s.heap [] 0 0 (lw_Z below #[Value.ref b] s) (entryFrame m ([Value.ref b] : List Value).toArray 4) := by
  obtain ⟨hx, hb, hr, hml, hown, hts, hX, hbl, hlocks, hgv⟩ := C0
  obtain ⟨D, hK⟩ := start_D hts
  obtain ⟨t, hZ, hT⟩ := start_W hts hgv
  refine law_run l b L xs t D hx hb hr hml hown (fun w hw => hts w (ALL_in hw)) hlocks ⟨rfl, Nat.le_refl _, fun a c h => (by cases h), ⟨hbl, hX⟩, hZ, hT⟩ ⟨hK, fun w hw => ?_, ⟨va_AO.of (hts _ ao_3), va_AO.of (hts _ ao_8), va_AO.of (hts _ ao_9)⟩, hts _ ao_A⟩ (fun g g1 g2 g3 g4 => ?_)
  · rcases NWL_kind w hw with ⟨a, i, bb, n, d, q, rfl⟩ | ⟨a, i, x, q, rfl⟩
    · exact va_Nw.of (by rfl) (hts _ (NWL_tbl _ hw))
    · exact va_Nw.of (by rfl) (hts _ (NWL_tbl _ hw))
  · have := HS g s.heap.size g1 (by rw [g3]; exact hL)
    rw [g2] at this
    exact this
